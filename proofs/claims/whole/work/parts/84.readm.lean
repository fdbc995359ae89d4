/-! the reference reads -/
def fmS0 (S : qv_St) (q j : Nat) (X : qv_St) : Prop := ∃ x, X = qv_si S q j x
theorem fmS_of0 {sd q j : Nat} {S X : qv_St} (h1 : 9 ≤ q) (h2 : q ≤ 32) (h3 : j / wid q = sd) (h : fmS0 S q j X) : fmS sd S X := by
  obtain ⟨x, rfl⟩ := h
  exact fmS_si h1 h2 h3
theorem ok_bsi {τ : Type} {S : qv_St} {q j : Nat} {x : Int32} {k : qv_St → Option τ} {Q : τ → Prop} (h : ∀ X : qv_St, X.1 q j = x → (∀ r, r ≠ q → X.1 r = S.1 r) → (∀ i, i ≠ j → X.1 q i = S.1 q i) → X.2 = S.2 → fmS0 S q j X → okk (k X) Q) : okk (qv_b (qv_si S q j x) k) Q :=
  h _ (by rw [qs_si, qs_eq, upd_eq]) (fun r hr => by rw [qs_si, qs_ne hr]) (fun i hi => by rw [qs_si, qs_eq, upd_ne hi]) rfl ⟨x, rfl⟩
theorem plainM {sd : Nat} {S : qv_St} (hsd : sd ≤ 1) : okk (fX12_plain S (nI sd)) (fun Z => mDat sd D00 Z.1 ∧ (∀ k, k < 3 → Z.1 24 (3 * sd + k) = 0 ∧ Z.1 25 (3 * sd + k) = 0) ∧ fmS sd S Z ∧ Z.1 0 = S.1 0 ∧ Z.2 = S.2 ∧ (∀ q, q < 9 → Z.1 q = S.1 q)) := by
  unfold fX12_plain
  have hN5 := qN
  generalize qv_N = N at hN5 ⊢
  refine ok_ck sd rfl (by omega) (by decide) ?_
  rw [qi_cl (by omega)]
  refine ok_bsi (fun A a1 a2 a3 a4 a5 => ok_ck sd rfl (by omega) (by decide) ?_)
  refine ok_bsi (fun B b1 b2 b3 b4 b5 => ok_ck sd rfl (by omega) (by decide) ?_)
  refine ok_bsi (fun C c1 c2 c3 c4 c5 => ok_ck sd rfl (by omega) (by decide) ?_)
  refine ok_bsi (fun D d1 d2 d3 d4 d5 => ok_ck sd rfl (by omega) (by decide) ?_)
  refine ok_bsi (fun E e1 e2 e3 e4 e5 => ok_ck sd rfl (by omega) (by decide) ?_)
  refine ok_bsi (fun F f1 f2 f3 f4 f5 => ?_)
  have one : ∀ q, (q = 9 ∨ q = 16 ∨ q = 18 ∨ q = 21 ∨ q = 22 ∨ q = 23) → sd / wid q = sd := fun q hq => by rw [wid_1 hq, Nat.div_one]
  have hfF : fmS sd S F := fmS_trans (fmS_of0 (by decide) (by decide) (one 9 (by omega)) a5) (fmS_trans (fmS_of0 (by decide) (by decide) (one 16 (by omega)) b5) (fmS_trans (fmS_of0 (by decide) (by decide) (one 18 (by omega)) c5) (fmS_trans (fmS_of0 (by decide) (by decide) (one 21 (by omega)) d5) (fmS_trans (fmS_of0 (by decide) (by decide) (one 22 (by omega)) e5) (fmS_of0 (by decide) (by decide) (one 23 (by omega)) f5)))))
  have v9 : F.1 9 sd = 0 := by rw [f2 9 (by decide), e2 9 (by decide), d2 9 (by decide), c2 9 (by decide), b2 9 (by decide)]; exact a1
  have v16 : F.1 16 sd = 0 := by rw [f2 16 (by decide), e2 16 (by decide), d2 16 (by decide), c2 16 (by decide)]; exact b1
  have v18 : F.1 18 sd = 0 := by rw [f2 18 (by decide), e2 18 (by decide), d2 18 (by decide)]; exact c1
  have v21 : F.1 21 sd = 5 := by rw [f2 21 (by decide), e2 21 (by decide)]; exact d1
  have v22 : F.1 22 sd = 50 := by rw [f2 22 (by decide)]; exact e1
  have vlo : ∀ q, q < 9 → F.1 q = S.1 q := fun q hq => by rw [f2 q (by omega), e2 q (by omega), d2 q (by omega), c2 q (by omega), b2 q (by omega), a2 q (by omega)]
  have v2 : F.2 = S.2 := by rw [f4, e4, d4, c4, b4, a4]
  refine ok_lp2 (fun n T x => ∃ j, n = 3 - j ∧ j ≤ 3 ∧ x = nI j ∧ (∀ k, k < j → T.1 24 (3 * sd + k) = 0 ∧ T.1 25 (3 * sd + k) = 0) ∧ (∀ q, q ≠ 24 → q ≠ 25 → T.1 q = F.1 q) ∧ T.2 = F.2 ∧ fmS sd F T) ?_ N 3 F 0 ⟨0, rfl, by decide, rfl, fun k hk => absurd hk (Nat.not_lt_zero _), fun _ _ _ => rfl, rfl, fmS_rfl⟩ (by omega)
  rintro self n T x ⟨j, rfl, hj, rfl, tz, tq, t2, tf⟩ ih
  have hix : 3 * nI sd + nI j = nI (3 * sd + j) := by rw [show (3 : Int32) = nI 3 from rfl, pk_mul, nI_add]
  by_cases g : j = 3
  · refine ok_pos (by rw [g]; decide) (ok_s ⟨⟨?_, ?_, ?_, ?_, ?_, ?_, fun q _ _ k hk => absurd hk (by show ¬ k < 0; omega), fun p hp => absurd hp (by show ¬ p < 0; omega), fun s hs => absurd hs (by show ¬ s < 0; omega)⟩, fun k hk => tz k (by omega), fmS_trans hfF tf, ?_, by rw [t2, v2], fun q hq => by rw [tq q (by omega) (by omega)]; exact vlo q hq⟩)
    · rw [tq 9 (by decide) (by decide)]; exact v9
    · rw [tq 16 (by decide) (by decide)]; exact v16
    · rw [tq 18 (by decide) (by decide)]; exact v18
    · rw [tq 21 (by decide) (by decide)]; exact v21
    · rw [tq 22 (by decide) (by decide)]; exact v22
    · rw [tq 23 (by decide) (by decide)]; exact f1
    · rw [tq 0 (by decide) (by decide)]; exact vlo 0 (by decide)
  · refine ok_neg (show ¬ (3 : Int32) ≤ nI j from nI_ge (b := 3) (by omega) (by decide)) ?_
    rw [hix]
    refine ok_ck _ rfl (by omega) (by decide) ?_
    rw [qi_cl (by omega)]
    refine ok_bsi (fun P p1 p2 p3 p4 p5 => ok_ck _ rfl (by omega) (by decide) ?_)
    refine ok_bsi (fun Q q1 q2 q3 q4 q5 => ?_)
    rw [nI_1]
    refine ih (3 - (j + 1)) _ _ (by omega) ⟨j + 1, rfl, by omega, rfl, fun k hk => ?_, fun q h1 h2 => by rw [q2 q h2, p2 q h1]; exact tq q h1 h2, by rw [q4, p4, t2], fmS_trans tf (fmS_trans (fmS_of0 (by decide) (by decide) (by rw [show wid 24 = 3 from rfl]; omega) p5) (fmS_of0 (by decide) (by decide) (by rw [show wid 25 = 3 from rfl]; omega) q5))⟩
    by_cases e : k = j
    · rw [e, q2 24 (by decide)]; exact ⟨p1, q1⟩
    · rw [q2 24 (by decide), p3 _ (by omega), q3 _ (by omega), p2 25 (by decide)]; exact tz k (by omega)
theorem beginsM {lv c sdv : Nat} {S : qv_St} (hlv : lv ≤ 1) (h18 : S.1 0 18 = nI lv) (h22 : S.1 22 lv = nI c) (h23 : S.1 23 lv = nI sdv) : okk (fX12_begins S) (fun Z => (∀ k, k < 32 → Z.1 37 k = nI (if k = 3 then c else 0)) ∧ (∀ q, q ≠ 0 → q ≠ 37 → Z.1 q = S.1 q) ∧ (∀ j, j ≠ 55 → Z.1 0 j = S.1 0 j) ∧ Z.2 = S.2) := by
  unfold fX12_begins
  have hN5 := qN
  generalize qv_N = N at hN5 ⊢
  simp only [qj_e]
  refine ok_lp2 (fun n T x => ∃ j, n = 32 - j ∧ j ≤ 32 ∧ x = nI j ∧ (∀ k, k < j → T.1 37 k = 0) ∧ (∀ q, q ≠ 37 → T.1 q = S.1 q) ∧ T.2 = S.2) ?_ N 32 S 0 ⟨0, rfl, by decide, rfl, fun k hk => absurd hk (Nat.not_lt_zero _), fun _ _ => rfl, rfl⟩ (by omega)
  rintro self n T x ⟨j, rfl, hj, rfl, tz, tq, t2⟩ ih
  by_cases g : j = 32
  · refine ok_pos (by rw [g]; decide) ?_
    rw [tq 0 (by decide), h18]
    refine ok_ck lv rfl (by omega) (by decide) (ok_ck 3 rfl (by decide) (by decide) ?_)
    rw [qi_cl (by omega), tq 22 (by decide), h22, tc3]
    refine ok_bsi (fun P p1 p2 p3 p4 p5 => ?_)
    rw [p2 0 (by decide), tq 0 (by decide), h18]
    refine ok_ck lv rfl (by omega) (by decide) ?_
    refine ok_bsi (fun R q1 q2 q3 q4 q5 => ok_s ⟨fun k hk => ?_, fun q h1 h2 => by rw [q2 q h1, p2 q h2]; exact tq q h2, fun i hi => by rw [q3 i hi, p2 0 (by decide), tq 0 (by decide)], by rw [q4, p4, t2]⟩)
    rw [q2 37 (by decide)]
    by_cases e : k = 3
    · rw [e, if_pos rfl]; exact p1
    · rw [if_neg e, p3 k e]; exact tz k (by omega)
  · refine ok_neg (show ¬ (32 : Int32) ≤ nI j from nI_ge (b := 32) (by omega) (by decide)) (ok_ck j rfl (by omega) (by decide) ?_)
    rw [qi_cl (by omega)]
    refine ok_bsi (fun P p1 p2 p3 p4 p5 => ?_)
    rw [nI_1]
    refine ih (32 - (j + 1)) _ _ (by omega) ⟨j + 1, rfl, by omega, rfl, fun k hk => ?_, fun q hq => by rw [p2 q hq]; exact tq q hq, by rw [p4, t2]⟩
    by_cases e : k = j
    · rw [e]; exact p1
    · rw [p3 k e]; exact tz k (by omega)
theorem mS_live2 {lv sd : Nat} {D : Nat → Nat → Nat} {W : Nat → List lwB} {S Z : qv_St} (h : mS lv D W S.1) (hv : vD D) (f : ∀ q, 9 ≤ q → q ≤ 32 → ∀ j, j / wid q ≠ sd → Z.1 q j = S.1 q j) (f18 : Z.1 0 18 = S.1 0 18) (hne : lv ≠ sd) : mS lv D W Z.1 := by
  have h1 : fmS sd S ((fun q => if 9 ≤ q ∧ q ≤ 32 then Z.1 q else S.1 q), S.2) := ⟨fun q q1 q2 => if_neg (by omega), fun q q1 q2 j hj => by show (if 9 ≤ q ∧ q ≤ 32 then Z.1 q else S.1 q) j = _; rw [if_pos ⟨q1, q2⟩]; exact f q q1 q2 j hj, fun k _ _ _ _ _ => rfl, fun _ _ => rfl⟩
  refine mS_G (fun q q1 q2 => ?_) ?_ (mS_live h hv h1 hne)
  · show Z.1 q = if 9 ≤ q ∧ q ≤ 32 then Z.1 q else S.1 q
    rw [if_pos ⟨q1, q2⟩]
  · show Z.1 0 18 = S.1 0 18
    exact f18
