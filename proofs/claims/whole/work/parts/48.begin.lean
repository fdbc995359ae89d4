/-! beginning anew, and the start -/
def c0R (c : Nat) : Nat → Nat := fun k => if k = 3 then c else 0
theorem c0R_ne {c k : Nat} (h : k ≠ 3) : c0R c k = 0 := if_neg h
def R0 (D : Nat → Nat → Nat) : Nat → Nat := c0R (D 9 16)
theorem clearState {S : qv_St} {c : Nat} : okk (fX6_clear S 31 (nI c)) (fun z => z.2 = S.2 ∧ cR (c0R c) z.1 31 ∧ ∀ q, (q < 31 ∨ 35 < q) → z.1 q = S.1 q) := by
  unfold fX6_clear
  simp only [qb_e]
  rw [fill_eq (by decide), Option.bind_some, fill_eq (by decide), Option.bind_some, fill_eq (by decide), Option.bind_some, fill_eq (by decide), Option.bind_some]
  refine ok_s ⟨rfl, ⟨?_, ?_, ?_, ?_, fun k hk => ?_, fun s hs => ⟨?_, ?_, ?_⟩⟩, fun q hq => ?_⟩
  · rw [qs_ne (by decide), qs_ne (by decide), qs_ne (by decide), qs_ne (by decide), qs_si, qs_eq, upd_ne (by decide), qs_si, qs_eq, upd_ne (by decide), qs_si, qs_eq, upd_ne (by decide), qs_si, qs_eq, upd_eq]; rfl
  · rw [qs_ne (by decide), qs_ne (by decide), qs_ne (by decide), qs_ne (by decide), qs_si, qs_eq, upd_ne (by decide), qs_si, qs_eq, upd_ne (by decide), qs_si, qs_eq, upd_eq]; rfl
  · rw [qs_ne (by decide), qs_ne (by decide), qs_ne (by decide), qs_ne (by decide), qs_si, qs_eq, upd_ne (by decide), qs_si, qs_eq, upd_eq]; rfl
  · rw [qs_ne (by decide), qs_ne (by decide), qs_ne (by decide), qs_ne (by decide), qs_si, qs_eq, upd_eq]; rfl
  · rw [qs_ne (by decide), qs_ne (by decide), qs_ne (by decide), qs_eq, if_pos hk, c0R_ne (by omega)]; rfl
  · rw [qs_ne (by decide), qs_ne (by decide), qs_eq, if_pos hs, c0R_ne (by omega)]; rfl
  · rw [qs_ne (by decide), qs_eq, if_pos hs, c0R_ne (by omega)]; rfl
  · rw [qs_eq, if_pos hs, c0R_ne (by omega)]; rfl
  · rw [qs_ne (by omega), qs_ne (by omega), qs_ne (by omega), qs_ne (by omega), qs_si, qs_ne (by omega), qs_si, qs_ne (by omega), qs_si, qs_ne (by omega), qs_si, qs_ne (by omega)]
theorem beginC {D : Nat → Nat → Nat} {W : Nat → List lwB} {S : qv_St} {top : Nat} {tp ts tz : Nat → Nat} {h : Nat → Nat → Nat} (hD : vD D) (hW : ∀ k, k < 3 → lwf (W k)) (hS : cS D W S.1) (hz : cZ S.1) (ht : top < 40) (h36 : S.1 36 1 = nI top) : okk (fX11_beginAnew S) (fun z => qC (D, W, nI (D 9 17), R0 D) z ∧ hC 0 h z.1 ∧ slC (fun _ => none) z.1 ∧ tkC (D, W, nI (D 9 17), R0 D) 0 tp ts tz z.1 ∧ z.2 = S.2 ∧ (∀ q, 0 < q → q < 31 → z.1 q = S.1 q)) := by
  have hv : vE (D, W, nI (D 9 17), R0 D) := ⟨hD, hW, fun k hk => by
    have := hD.2.2.2.2.1
    show (if k = 3 then D 9 16 else 0) ≤ 1000000
    split <;> omega⟩
  unfold fX11_beginAnew
  rw [hS.2.2.2.2.1]
  refine ok_bd clearState ?_
  rintro X ⟨x1, x2, x3⟩
  refine ok_b (fun y => y.2 = S.2 ∧ y.1 36 2 = nI 0 ∧ y.1 36 1 = nI top ∧ ∀ q, q ≠ 36 → y.1 q = X.1 q) ⟨x1, by rw [qs_si, qs_eq, upd_eq]; rfl, by rw [qs_si, qs_eq, upd_ne (by decide), x3 36 (by omega)]; exact h36, fun q hq => by rw [qs_si, qs_ne hq]⟩ ?_
  rintro Y ⟨y1, y2, y3, y4⟩
  refine ok_b (fun y => y.2 = S.2 ∧ y.1 36 = Y.1 36 ∧ y.1 0 7 = nI 0 ∧ ∀ q, q ≠ 0 → y.1 q = Y.1 q) ⟨y1, by rw [qs_si, qs_ne (by decide)], by rw [qs_si, qs_eq, upd_eq]; rfl, fun q hq => by rw [qs_si, qs_ne hq]⟩ ?_
  rintro Z ⟨z1, z2, z3, z4⟩
  unfold fX10_clear
  simp only [qb_e]
  rw [fill_eq (by decide), Option.bind_some, Option.bind_some]
  generalize hV : qs (qv_si Z 268 3 0) 269 (fun j => if j < 1000 then 0 else (qv_si Z 268 3 0).1 269 j) = V
  have v2 : V.2 = S.2 := by rw [← hV]; exact z1
  have vq : ∀ q, q ≠ 268 → q ≠ 269 → V.1 q = Z.1 q := fun q q1 q2 => by rw [← hV, qs_ne q2, qs_si, qs_ne q1]
  have v268 : V.1 268 3 = nI 0 := by rw [← hV, qs_ne (by decide), qs_si, qs_eq, upd_eq]; rfl
  have v269 : ∀ b, b < 1000 → V.1 269 b = nI 0 := fun b hb => by rw [← hV, qs_eq, if_pos hb]; rfl
  have vS : ∀ q, 0 < q → (q < 31 ∨ (36 < q ∧ q < 268)) → V.1 q = S.1 q := fun q q1 q2 => by rw [vq q (by omega) (by omega), z4 q (by omega), y4 q (by omega), x3 q (by omega)]
  have v917 : V.1 9 17 = nI (D 9 17) := by rw [vS 9 (by decide) (by omega)]; exact hS.2.2.2.2.2.1
  rw [v917]
  unfold fX0_tune
  simp only [qb_e]
  rw [fill_eq (by decide), Option.bind_some, Option.bind_some, qs_si]
  unfold fX7_drop
  simp only [qb_e, Option.bind_some]
  rw [qs_si]
  generalize hU : qs (qs (qs V 254 (upd (V.1 254) 6 (nI (D 9 17)))) 258 (fun j => if j < 8 then -1000 else (qs V 254 (upd (V.1 254) 6 (nI (D 9 17)))).1 258 j)) 260 (upd ((qs (qs V 254 (upd (V.1 254) 6 (nI (D 9 17)))) 258 (fun j => if j < 8 then -1000 else (qs V 254 (upd (V.1 254) 6 (nI (D 9 17)))).1 258 j)).1 260) 5 (-1)) = U
  have uq : ∀ q, q ≠ 254 → q ≠ 258 → q ≠ 260 → U.1 q = V.1 q := fun q q1 q2 q3 => by rw [← hU, qs_ne q3, qs_ne q2, qs_ne q1]
  have u2 : U.2 = S.2 := by rw [← hU]; exact v2
  have u254 : U.1 254 6 = nI (D 9 17) := by rw [← hU, qs_ne (by decide), qs_ne (by decide), qs_eq, upd_eq]
  have u258 : ∀ k, k < 8 → U.1 258 k = -1000 := fun k hk => by rw [← hU, qs_ne (by decide), qs_eq, if_pos hk]
  have u260 : U.1 260 5 = -1 := by rw [← hU, qs_eq, upd_eq]
  have uS : ∀ q, 0 < q → q < 31 → U.1 q = S.1 q := fun q q1 q2 => by rw [uq q (by omega) (by omega) (by omega)]; exact vS q q1 (by omega)
  refine ok_s ⟨⟨hv, ⟨cS_G (fun q q1 q2 _ _ => uS q (by omega) (by omega)) hS, cR_G (fun q q1 q2 => ?_) x2, u254, ?_, fun k hk hk2 => ?_⟩, Or.inl u260⟩, ⟨top, ht, ?_, ?_, by omega, fun j hj => by omega⟩, ⟨?_, fun s hs r hr => by cases hr⟩, ⟨?_, fun b hb => ?_⟩, u2, uS⟩
  · rw [uq q (by omega) (by omega) (by omega), vq q (by omega) (by omega), z4 q (by omega), y4 q (by omega)]
  · unfold cZ
    rw [uq 255 (by decide) (by decide) (by decide), uq 256 (by decide) (by decide) (by decide), uq 257 (by decide) (by decide) (by decide), vS 255 (by decide) (by omega), vS 256 (by decide) (by omega), vS 257 (by decide) (by omega)]
    exact hz
  · have hk : k < D 9 0 := hk
    have := hD.1
    exact Or.inl (u258 k (by omega))
  · rw [uq 36 (by decide) (by decide) (by decide), vq 36 (by decide) (by decide), z2]; exact y3
  · rw [uq 36 (by decide) (by decide) (by decide), vq 36 (by decide) (by decide), z2]; exact y2
  · rw [uq 0 (by decide) (by decide) (by decide), vq 0 (by decide) (by decide)]; exact z3
  · rw [uq 268 (by decide) (by decide) (by decide)]; exact v268
  · rw [uq 269 (by decide) (by decide) (by decide)]; exact v269 b hb
def D00 : Nat → Nat → Nat := fun q k => if q = 9 then (if k = 15 then 5 else if k = 16 then 50 else 0) else 0
theorem D00_v : vD D00 := ⟨by decide, by decide, by decide, by decide, by decide, by decide, fun k hk => absurd hk (by show ¬ k < 0; omega), fun p hp => absurd hp (by show ¬ p < 0; omega), fun s hs => absurd hs (by show ¬ s < 0; omega)⟩
theorem lwD_wf : ∀ k, k < 3 → lwf (lwD k) := by
  intro k hk
  rcases (by omega : k = 0 ∨ k = 1 ∨ k = 2) with rfl | rfl | rfl
  · exact ⟨Or.inr (Or.inl ⟨rfl, ⟨0, by decide, rfl⟩, by decide, rfl⟩), trivial⟩
  · exact ⟨Or.inr (Or.inl ⟨rfl, ⟨4, by decide, rfl⟩, by decide, rfl⟩), trivial⟩
  · exact ⟨Or.inl ⟨rfl, by decide, by decide, rfl⟩, trivial⟩
theorem qt_a : qt_S.1 9 0 = nI 0 ∧ qt_S.1 9 1 = nI 0 ∧ qt_S.1 9 2 = nI 0 ∧ qt_S.1 9 15 = nI 5 ∧ qt_S.1 9 16 = nI 50 ∧ qt_S.1 9 17 = nI 0 := by decide +kernel
theorem qt_b : (qt_S.1 19 3 = nI 2 ∧ qt_S.1 20 0 = -13 ∧ qt_S.1 20 1 = -59) ∧ (qt_S.1 23 3 = nI 2 ∧ qt_S.1 24 0 = -17 ∧ qt_S.1 24 1 = -59) ∧ (qt_S.1 27 3 = nI 2 ∧ qt_S.1 28 0 = 0 ∧ qt_S.1 28 1 = -59) := by decide +kernel
theorem qt_c : (qt_S.1 255 4 = 0 ∧ qt_S.1 255 5 = 0 ∧ qt_S.1 255 6 = 0) ∧ (qt_S.1 256 0 = 0 ∧ qt_S.1 256 1 = 0 ∧ qt_S.1 256 2 = 0 ∧ qt_S.1 256 3 = 0 ∧ qt_S.1 256 6 = 0) ∧ (qt_S.1 257 0 = 0 ∧ qt_S.1 257 1 = 0 ∧ qt_S.1 257 2 = 0 ∧ qt_S.1 257 3 = 0 ∧ qt_S.1 257 4 = 0 ∧ qt_S.1 257 5 = 0 ∧ qt_S.1 257 7 = 0) := by decide +kernel
theorem qt_d : qt_S.1 36 1 = nI 0 ∧ qt_S.1 1 1 = nI 0 ∧ qt_S.1 7 9 = -1 := by decide +kernel
theorem law2 {G : Nat → Nat → Int32} {q : Nat} {brs : List lwB} {a : Int32} (hf : flat brs = [a, -59]) (h1 : G q 3 = nI 2) (h2 : G (q + 1) 0 = a) (h3 : G (q + 1) 1 = -59) : cLaw G q brs := by
  unfold cLaw
  rw [hf]
  refine ⟨h1, (show (2 : Nat) ≤ 400 by decide), fun j hj => ?_⟩
  have hj : j < 2 := hj
  rcases (by omega : j = 0 ∨ j = 1) with rfl | rfl
  · exact h2
  · exact h3
theorem mo_a : mo_S.1 0 18 = nI 0 ∧ mo_S.1 9 0 = nI 0 ∧ mo_S.1 16 0 = nI 0 ∧ mo_S.1 18 0 = nI 0 ∧ mo_S.1 21 0 = nI 5 ∧ mo_S.1 22 0 = nI 50 ∧ mo_S.1 23 0 = nI 0 ∧ mo_S.1 0 57 = nI 0 ∧ mo_S.1 0 65 = nI 0 ∧ mo_S.1 0 2 = nI 0 ∧ mo_S.1 0 17 = -1 := by decide +kernel
theorem mo_b : ∀ k, k < 3 → mo_S.1 24 k = mo_S.1 25 k ∧ mo_S.1 46 k = 0 := by decide +kernel
theorem mo_c : ∀ k, k < 32 → mo_S.1 36 k = nI (if k = 3 then 50 else 0) := by decide +kernel
theorem rel_start : Rel 0 qt_S2 mo_S := by
  obtain ⟨a0, a1, a2, a3, a4, a5⟩ := qt_a
  obtain ⟨⟨b0, b1, b2⟩, ⟨b3, b4, b5⟩, ⟨b6, b7, b8⟩⟩ := qt_b
  obtain ⟨d0, d1, d2⟩ := qt_d
  have hS : cS D00 lwD qt_S.1 := ⟨a0, a1, a2, a3, a4, a5, fun q _ _ k hk => absurd hk (by show ¬ k < 0; omega), fun p hp => absurd hp (by show ¬ p < 0; omega), fun s hs => absurd hs (by show ¬ s < 0; omega), law2 rfl b0 b1 b2, law2 rfl b3 b4 b5, law2 rfl b6 b7 b8⟩
  obtain ⟨Z, eZ, z1, z2, z3, z4, z5, z6⟩ := beginC (D := D00) (W := lwD) (S := qt_S) (top := 0) (tp := fun _ => 0) (ts := fun _ => 0) (tz := fun _ => 0) (h := fun _ _ => 0) D00_v lwD_wf hS qt_c (by decide) d0
  have hZ2 : Z = qt_S2 := Option.some.inj (eZ.symm.trans qt_S2_eq)
  rw [← hZ2]
  obtain ⟨m0, m1, m2, m3, m4, m5, m6, m7, m8, m9, m10⟩ := mo_a
  have hrv : rV 0 D00 (R0 D00) := ⟨fun k hk => by unfold R0 c0R; split; decide; decide, Or.inl rfl, fun s _ hs => c0R_ne (by omega), fun s hs => by unfold R0; rw [c0R_ne (by omega)]; decide⟩
  refine ⟨(D00, lwD, nI (D00 9 17), R0 D00), 0, 0, (fun _ _ => 0), (fun _ => none), 0, (fun _ => 0), (fun _ => 0), (fun _ => 0), ⟨hrv, fun j hj => by omega, fun s hs r hr => (by cases hr), by decide, fun j hj => by omega⟩, ⟨z1, z2, z3, z4⟩, ⟨⟨z1.1, ⟨by decide, m0, m1, m2, m3, m4, m5, m6, fun q _ _ k hk => absurd hk (by show ¬ k < 0; omega), fun p hp => absurd hp (by show ¬ p < 0; omega), fun s hs => absurd hs (by show ¬ s < 0; omega), fun k hk => Or.inl ⟨by rw [Nat.mul_zero, Nat.zero_add]; exact (mo_b k hk).1, rfl⟩⟩, fun k hk => mo_c k hk, rfl⟩, ⟨m7, by decide, fun j hj => by omega⟩, ⟨fun s hs => (mo_b s hs).2, fun s hs r hr => (by cases hr)⟩, ⟨m8, fun j hj => by omega⟩, fun k _ => rfl⟩, ⟨0, by decide, by rw [z6 1 (by decide) (by decide)]; exact d1, m9, fun k hk => by omega⟩, ?_⟩
  rw [z6 7 (by decide) (by decide), d2, m10]
