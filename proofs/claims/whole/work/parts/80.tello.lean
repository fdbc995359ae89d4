/-! the reference's NOISES of CHANCE -/
theorem fit12 (v : Nat) : (0 ≤ v ∧ v ≤ 100) ↔ fitP 1 2 v := by simp [fitP]
theorem fit13 (v : Nat) : (1 ≤ v ∧ v ≤ 20) ↔ fitP 1 3 v := by simp [fitP]
theorem fit14 (v : Nat) : (0 ≤ v ∧ v ≤ 99) ↔ fitP 1 4 v := by simp [fitP]
theorem fit15 (v : Nat) : (0 ≤ v ∧ v ≤ 99) ↔ fitP 1 5 v := by simp [fitP]
theorem fit22 (v : Nat) : (0 ≤ v ∧ v ≤ 9) ↔ fitP 2 2 v := by simp [fitP]
theorem fit32 (v : Nat) : (1 ≤ v ∧ v ≤ 9) ↔ fitP 3 2 v := by simp [fitP]
theorem fit33 (v : Nat) : (0 ≤ v ∧ v ≤ 99) ↔ fitP 3 3 v := by simp [fitP]
theorem noise0M {B : Nat → Nat} {L sd t : Nat} {c : Nat × Nat × Nat} {S T : qv_St} (hL : L ≤ 2000) (hp : ∀ i, i < nT B L → ps B L i < L) (hsd : sd ≤ 1) (h : rS B L sd t c S) (hk : tk B L t = 1) (hc : c.1 < 8) (tl : lM B L (sPass (t, 0, 0)) T) (t0 : (sPass (t, 0, 0)).2.1 = 0) (tf : fmP S T) {x : Int32} (hx : x = 0) : okk (fX12_tellNoise T x) (fun Z => tlQ B L sd t c S Z) := by
  obtain ⟨r1, r2, r3, r4, r5, r6, r7, r8, r9, r10, r11⟩ := id h
  have h4 := r2.2.1
  have hcn : c = cnD (dat (tk B L) (tvn B L) t).1 := r2.2.2.1
  have hs : c.1 + c.2.1 + c.2.2 < 18 := by have := r2.2.2.2.2.1; have := r2.2.2.2.2.2.1; omega
  have hn0 : (dat (tk B L) (tvn B L) t).1 9 0 = c.1 := by rw [hcn]; rfl
  have he : tellS (tk B L) (tvn B L) c (t, 0, 0) = sOnly (tk B L) 59 (nP_ (tk B L) t 4) := by
    unfold tellS roomS
    rw [if_neg (show ¬ tk B L ((t, 0, 0) : pst).1 = 0 by show ¬ tk B L t = 0; omega), if_pos hk, if_pos hc]; rfl
  have hS9 : S.1 9 sd = nI c.1 := by rw [← hn0]; exact r8.1
  unfold fX12_tellNoise
  rw [tf.2.1 19 (by decide) (by decide) (by decide), r5]
  refine ok_ck sd rfl (by omega) (by decide) ?_
  rw [qi_cl (by omega), tf.1 9 (by decide), hS9]
  have hix : 8 * nI sd + nI c.1 = nI (8 * sd + c.1) := by rw [show (8 : Int32) = nI 8 from rfl, pk_mul, nI_add]
  rw [hix]
  refine ok_b (fun y => y = nI (8 * sd + c.1)) rfl ?_
  rintro x2 rfl
  refine ok_cm (namedX hL hp h (by omega) hs tl t0 tf) ?_
  rintro S1 r ⟨n1, n2, n3, n4⟩
  have n1 : r = nI (t + 1) := n1
  subst n1
  refine ok_ck _ rfl (by omega) (by decide) ?_
  rw [qi_cl (by omega)]
  refine ok_b (fun X => X = qv_si S1 10 (8 * sd + c.1) 0) (by rw [hx]; rfl) ?_
  rintro X hX
  have xl : lM B L (nP_ (tk B L) t 0) X := by rw [hX]; exact lM_si n2 (Or.inl (by decide))
  have xt : tkM' B L X := by
    refine tkM_fr (fmB_tk r4 n3) ?_ ?_ ?_ ?_
    · rw [hX, qs_si, qs_ne (by decide)]
    · rw [hX, qs_si, qs_ne (by decide)]
    · rw [hX, qs_si, qs_ne (by decide)]
    · rw [hX]; rfl
  have xq : ∀ q, q ≠ 0 → q ≠ 10 → X.1 q = S.1 q := fun q q1 q2 => by rw [hX, qs_si, qs_ne q2]; exact n3.1 q q1
  have x10 : X.1 10 = upd (S.1 10) (8 * sd + c.1) (nI 0) := by rw [hX, qs_si, qs_eq, n3.1 10 (by decide)]; rfl
  have x0 : ∀ s, s ≠ 11 → s ≠ 13 → s ≠ 14 → s ≠ 15 → s ≠ 16 → X.1 0 s = S.1 0 s := fun s s1 s2 s3 s4 s5 => by rw [hX, qs_si, qs_ne (by decide)]; exact n3.2.1 s s1 s2 s3 s4 s5
  have x2 : X.2 = S.2 := by rw [hX]; exact n3.2.2
  have xw : (nP_ (tk B L) t 0).2.1 = 0 → wM B L (t + 2 + 0) X := fun z => wM_fr (n4 z) (by rw [hX, qs_si, qs_ne (by decide)]) (by rw [hX, qs_si, qs_ne (by decide)])
  clear hX
  simp only [qj_e]
  refine ok_pos hx (ok_ck _ rfl (by omega) (by decide) ?_)
  refine ok_b (fun A => A = qv_si X 11 (8 * sd + c.1) 0) rfl ?_
  rintro A hA
  have al : lM B L (nP_ (tk B L) t 0) A := by rw [hA]; exact lM_si xl (Or.inl (by decide))
  have at_ : tkM' B L A := by
    refine tkM_fr xt ?_ ?_ ?_ ?_
    · rw [hA, qs_si, qs_ne (by decide)]
    · rw [hA, qs_si, qs_ne (by decide)]
    · rw [hA, qs_si, qs_ne (by decide)]
    · rw [hA]; rfl
  have aq : ∀ q, q ≠ 0 → q ≠ 11 → A.1 q = X.1 q := fun q q1 q2 => by rw [hA, qs_si, qs_ne q2]
  have a11 : A.1 11 = upd (X.1 11) (8 * sd + c.1) (nI 0) := by rw [hA, qs_si, qs_eq]; rfl
  have a0 : ∀ s, s ≠ 11 → s ≠ 13 → s ≠ 14 → s ≠ 15 → s ≠ 16 → A.1 0 s = X.1 0 s := fun s s1 s2 s3 s4 s5 => by rw [hA, qs_si, qs_ne (by decide)]
  have a2 : A.2 = X.2 := by rw [hA]; rfl
  have aw : (nP_ (tk B L) t 0).2.1 = 0 → wM B L (t + 2 + 0) A := fun z => wM_fr (xw z) (by rw [hA, qs_si, qs_ne (by decide)]) (by rw [hA, qs_si, qs_ne (by decide)])
  clear hA
  refine ok_pos hx ?_
  refine bstep (q := 12) (j := 0) (a := 0) (b := 100) hL hp (by omega) h4 r3 r2.1 (by omega) (by decide) (by decide) (by decide) (by decide) (by omega) (by decide) al at_ aw (fun v => by rw [hk]; exact fit12 v) ?_
  rintro C cl ct cq ⟨v2, c12, cv⟩ c0 c2 cw
  refine ok_pos hx ?_
  refine bstep (q := 13) (j := 1) (a := 1) (b := 20) hL hp (by omega) h4 r3 r2.1 (by omega) (by decide) (by decide) (by decide) (by decide) (by omega) (by decide) cl ct cw (fun v => by rw [hk]; exact fit13 v) ?_
  rintro E el et eq ⟨v3, e13, ev⟩ e0 e2 ew
  refine bstep (q := 14) (j := 2) (a := 0) (b := 99) hL hp (by omega) h4 r3 r2.1 (by omega) (by decide) (by decide) (by decide) (by decide) (by omega) (by decide) el et ew (fun v => by rw [hk]; exact fit14 v) ?_
  rintro F fl ft fq ⟨v4, f14, fv⟩ f0 f2 fw
  refine bstep (q := 15) (j := 3) (a := 0) (b := 99) hL hp (by omega) h4 r3 r2.1 (by omega) (by decide) (by decide) (by decide) (by decide) (by omega) (by decide) fl ft fw (fun v => by rw [hk]; exact fit15 v) ?_
  rintro G gl gt gq ⟨v5, g15, gv⟩ g0 g2 gw
  have G0 : ∀ s, s ≠ 11 → s ≠ 13 → s ≠ 14 → s ≠ 15 → s ≠ 16 → G.1 0 s = S.1 0 s := fun s s1 s2 s3 s4 s5 => by rw [g0 s s1 s2 s3 s4 s5, f0 s s1 s2 s3 s4 s5, e0 s s1 s2 s3 s4 s5, c0 s s1 s2 s3 s4 s5, a0 s s1 s2 s3 s4 s5, x0 s s1 s2 s3 s4 s5]
  have G2 : G.2 = S.2 := by rw [g2, f2, e2, c2, a2, x2]
  have Gq : ∀ q, q ≠ 0 → (q < 10 ∨ 15 < q) → G.1 q = S.1 q := fun q q1 q2 => by rw [gq q q1 (by omega), fq q q1 (by omega), eq q q1 (by omega), cq q q1 (by omega), aq q q1 (by omega), xq q q1 (by omega)]
  have G10 : G.1 10 = upd (S.1 10) (8 * sd + c.1) (nI 0) := by rw [gq 10 (by decide) (by decide), fq 10 (by decide) (by decide), eq 10 (by decide) (by decide), cq 10 (by decide) (by decide), aq 10 (by decide) (by decide), x10]
  have G11 : G.1 11 = upd (S.1 11) (8 * sd + c.1) (nI 0) := by rw [gq 11 (by decide) (by decide), fq 11 (by decide) (by decide), eq 11 (by decide) (by decide), cq 11 (by decide) (by decide), a11, xq 11 (by decide) (by decide)]
  have G12 : G.1 12 = upd (S.1 12) (8 * sd + c.1) v2 := by rw [gq 12 (by decide) (by decide), fq 12 (by decide) (by decide), eq 12 (by decide) (by decide), c12, aq 12 (by decide) (by decide), xq 12 (by decide) (by decide)]
  have G13 : G.1 13 = upd (S.1 13) (8 * sd + c.1) v3 := by rw [gq 13 (by decide) (by decide), fq 13 (by decide) (by decide), e13, cq 13 (by decide) (by decide), aq 13 (by decide) (by decide), xq 13 (by decide) (by decide)]
  have G14 : G.1 14 = upd (S.1 14) (8 * sd + c.1) v4 := by rw [gq 14 (by decide) (by decide), f14, eq 14 (by decide) (by decide), cq 14 (by decide) (by decide), aq 14 (by decide) (by decide), xq 14 (by decide) (by decide)]
  have G15 : G.1 15 = upd (S.1 15) (8 * sd + c.1) v5 := by rw [g15, fq 15 (by decide) (by decide), eq 15 (by decide) (by decide), cq 15 (by decide) (by decide), aq 15 (by decide) (by decide), xq 15 (by decide) (by decide)]
  have hd8 : ∀ j, j / 8 ≠ sd → j ≠ 8 * sd + c.1 := fun j hj z => hj (by omega)
  have Gs : ∀ q, 9 ≤ q → q ≤ 32 → ∀ j, j / wid q ≠ sd → G.1 q j = S.1 q j := by
    intro q q1 q2 j hj
    by_cases e : q < 10 ∨ 15 < q
    · rw [Gq q (by omega) e]
    · rw [wid_8 (by omega) (by omega)] at hj
      rcases (by omega : q = 10 ∨ q = 11 ∨ q = 12 ∨ q = 13 ∨ q = 14 ∨ q = 15) with rfl | rfl | rfl | rfl | rfl | rfl
      · rw [G10, upd_ne (hd8 j hj)]
      · rw [G11, upd_ne (hd8 j hj)]
      · rw [G12, upd_ne (hd8 j hj)]
      · rw [G13, upd_ne (hd8 j hj)]
      · rw [G14, upd_ne (hd8 j hj)]
      · rw [G15, upd_ne (hd8 j hj)]
  refine endN hL hp h (by omega) hs gl gt G0 G2 gw ?_ ?_
  · intro Z z0 z1 z2 z3 z4
    exact badN he z0 z1 ⟨fun q q1 q2 => by rw [z2 q q1]; exact Gq q q1 (by omega), fun q q1 q2 j hj => by rw [z2 q (by omega)]; exact Gs q q1 q2 j hj, fun s s1 s2 _ _ _ => z3 s s1 s2, z4⟩
  · intro Z z0 z1 zt z2 z3 z4 z20 zn zw
    have zo := (sOnly_ok z0).1
    have ok4 : (nP_ (tk B L) t 4).2.1 = 0 := zo
    have ok3 : (nP_ (tk B L) t 3).2.1 = 0 := by rw [nP_s] at ok4; exact (sOnly_ok ok4).1
    have ok2 : (nP_ (tk B L) t 2).2.1 = 0 := by rw [nP_s] at ok3; exact (sOnly_ok ok3).1
    have ok1 : (nP_ (tk B L) t 1).2.1 = 0 := by rw [nP_s] at ok2; exact (sOnly_ok ok2).1
    have e59 : sOnly (tk B L) 59 (nP_ (tk B L) t 4) = (t + 3 + 4, 0, 0) := by rw [(sOnly_ok z0).2.2.2, (nP_ok zo).1]
    rw [z3 19 (by decide) (by decide) (by decide) (by decide) (by decide) (by decide), r5]
    refine ok_ck sd rfl (by omega) (by decide) (ok_ck sd rfl (by omega) (by decide) ?_)
    rw [qi_cl (by omega), z2 9 (by decide), Gq 9 (by decide) (by decide), hS9, nI_1]
    simp only [qb_e]
    refine ok_s ?_
    have wq : ∀ q, q ≠ 9 → (qv_si Z 9 sd (nI (c.1 + 1))).1 q = Z.1 q := fun q hq => by rw [qs_si, qs_ne hq]
    have w9 : (qv_si Z 9 sd (nI (c.1 + 1))).1 9 = upd (S.1 9) sd (nI (c.1 + 1)) := by rw [qs_si, qs_eq, z2 9 (by decide), Gq 9 (by decide) (by decide)]
    have w0 : (qv_si Z 9 sd (nI (c.1 + 1))).1 0 = Z.1 0 := wq 0 (by decide)
    unfold tlQ
    rw [he, e59]
    rw [e59] at z1
    refine ⟨lM_si z1 (Or.inl (by decide)), ⟨fun q q1 q2 => ?_, fun q q1 q2 j hj => ?_, fun s s1 s2 _ _ _ => ?_, z4⟩, fun _ => ⟨t + 3 + 4, rfl, ?_⟩⟩
    · rw [wq q (by omega), z2 q q1]; exact Gq q q1 (by omega)
    · by_cases e : q = 9
      · subst e
        rw [w9, upd_ne (fun z => hj (by rw [z, wid_1 (by omega), Nat.div_one]))]
      · rw [wq q e, z2 q (by omega)]; exact Gs q q1 q2 j hj
    · rw [w0]; exact z3 s (by omega) (by omega) (by omega) (by omega) (by omega) s2
    · refine rS_data hL hp hsd h (he.trans e59) (lM_si z1 (Or.inl (by decide))) (tkM_fr zt (wq 3 (by decide)) (wq 4 (by decide)) (wq 5 (by decide)) rfl) (fun q q1 q2 => ?_) (by rw [w0]; exact z3 12 (by decide) (by decide) (by decide) (by decide) (by decide) (by decide)) (by rw [w0]; exact z3 19 (by decide) (by decide) (by decide) (by decide) (by decide) (by decide)) (by rw [w0]; exact z3 39 (by decide) (by decide) (by decide) (by decide) (by decide) (by decide)) (by rw [w0]; exact z3 45 (by decide) (by decide) (by decide) (by decide) (by decide) (by decide)) ?_ (tel_W (Or.inl (by omega))) (by rw [w0]; exact z20) zn (wM_fr zw (by rw [w0]) (by rw [w0]))
      · rw [wq q (by omega), z2 q (by omega)]; exact Gq q (by omega) (by omega)
      · unfold tel
        rw [if_neg (by omega), if_pos hk]
        refine mDat_N r8 (by rw [w9, hn0]) ?_ ?_ ?_ ?_ ?_ ?_ (fun r q1 q2 => ?_)
        · rw [wq 10 (by decide), z2 10 (by decide), G10, hn0]
        · rw [wq 11 (by decide), z2 11 (by decide), G11, hn0]
        · rw [wq 12 (by decide), z2 12 (by decide), G12, hn0, cv ok1]
        · rw [wq 13 (by decide), z2 13 (by decide), G13, hn0, ev ok2]
        · rw [wq 14 (by decide), z2 14 (by decide), G14, hn0, fv ok3]
        · rw [wq 15 (by decide), z2 15 (by decide), G15, hn0, gv ok4]
        · rw [wq r (by omega), z2 r (by omega)]; exact Gq r (by omega) (by omega)
