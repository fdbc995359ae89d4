/-! the reference's SHOTS and PLACES -/
theorem shotM {B : Nat → Nat} {L sd t : Nat} {c : Nat × Nat × Nat} {S T : qv_St} (hL : L ≤ 2000) (hp : ∀ i, i < nT B L → ps B L i < L) (hsd : sd ≤ 1) (h : rS B L sd t c S) (hk : tk B L t = 3) (hc : c.2.2 < 6) (tl : lM B L (sPass (t, 0, 0)) T) (t0 : (sPass (t, 0, 0)).2.1 = 0) (tf : fmP S T) : okk (fX12_tellShot T) (fun Z => tlQ B L sd t c S Z) := by
  obtain ⟨r1, r2, r3, r4, r5, r6, r7, r8, r9, r10, r11⟩ := id h
  have h4 := r2.2.1
  have hcn : c = cnD (dat (tk B L) (tvn B L) t).1 := r2.2.2.1
  have hs : c.1 + c.2.1 + c.2.2 < 18 := by have := r2.2.2.2.1; have := r2.2.2.2.2.1; omega
  have hn0 : (dat (tk B L) (tvn B L) t).1 9 2 = c.2.2 := by rw [hcn]; rfl
  have he : tellS (tk B L) (tvn B L) c (t, 0, 0) = sOnly (tk B L) 59 (nP_ (tk B L) t 2) := by
    unfold tellS roomS
    rw [if_neg (show ¬ tk B L t = 0 by omega), if_neg (show ¬ tk B L t = 1 by omega), if_neg (show ¬ tk B L t = 2 by omega), if_pos hk, if_pos hc]; rfl
  have hS9 : S.1 18 sd = nI c.2.2 := by rw [← hn0]; exact r8.2.2.1
  unfold fX12_tellShot
  rw [tf.2.1 19 (by decide) (by decide) (by decide), r5]
  refine ok_ck sd rfl (by omega) (by decide) ?_
  rw [qi_cl (by omega), tf.1 18 (by decide), hS9]
  have hix : 6 * nI sd + nI c.2.2 = nI (6 * sd + c.2.2) := by rw [show (6 : Int32) = nI 6 from rfl, pk_mul, nI_add]
  rw [hix]
  refine ok_b (fun y => y = nI (6 * sd + c.2.2)) rfl ?_
  rintro x2 rfl
  refine ok_cm (namedX hL hp h (by omega) hs tl t0 tf) ?_
  rintro X r ⟨n1, n2, n3, n4⟩
  have n1 : r = nI (t + 1) := n1
  subst n1
  have n3 : fmB S X := n3
  rw [qi_cl (by omega)]
  refine bstep (q := 19) (j := 0) (a := 1) (b := 9) hL hp (by omega) h4 r3 r2.1 (by omega) (by decide) (by decide) (by decide) (by decide) (by omega) (by decide) n2 (fmB_tk r4 n3) n4 (fun v => by rw [hk]; exact fit32 v) ?_
  rintro A al at_ aq ⟨v1, a19, av⟩ a0 a2 aw
  refine bstep (q := 20) (j := 1) (a := 0) (b := 99) hL hp (by omega) h4 r3 r2.1 (by omega) (by decide) (by decide) (by decide) (by decide) (by omega) (by decide) al at_ aw (fun v => by rw [hk]; exact fit33 v) ?_
  rintro G gl gt gq ⟨v2, g20, gv⟩ g0 g2 gw
  have G0 : ∀ s, s ≠ 11 → s ≠ 13 → s ≠ 14 → s ≠ 15 → s ≠ 16 → G.1 0 s = S.1 0 s := fun s s1 s2 s3 s4 s5 => by rw [g0 s s1 s2 s3 s4 s5, a0 s s1 s2 s3 s4 s5, n3.2.1 s s1 s2 s3 s4 s5]
  have G2 : G.2 = S.2 := by rw [g2, a2]; exact n3.2.2
  have Gq : ∀ q, q ≠ 0 → q ≠ 19 → q ≠ 20 → G.1 q = S.1 q := fun q q1 q2 q3 => by rw [gq q q1 q3, aq q q1 q2]; exact n3.1 q q1
  have G19 : G.1 19 = upd (S.1 19) (6 * sd + c.2.2) v1 := by rw [gq 19 (by decide) (by decide), a19]; rw [n3.1 19 (by decide)]
  have G20 : G.1 20 = upd (S.1 20) (6 * sd + c.2.2) v2 := by rw [g20, aq 20 (by decide) (by decide)]; rw [n3.1 20 (by decide)]
  have hd6 : ∀ j, j / 6 ≠ sd → j ≠ 6 * sd + c.2.2 := fun j hj z => hj (by omega)
  have Gs : ∀ q, 9 ≤ q → q ≤ 32 → ∀ j, j / wid q ≠ sd → G.1 q j = S.1 q j := by
    intro q q1 q2 j hj
    by_cases e : q = 19
    · subst e
      rw [G19, upd_ne (hd6 j hj)]
    by_cases e2 : q = 20
    · subst e2
      rw [G20, upd_ne (hd6 j hj)]
    rw [Gq q (by omega) e e2]
  refine endN hL hp h (by omega) hs gl gt G0 G2 gw ?_ ?_
  · intro Z z0 z1 z2 z3 z4
    exact badN he z0 z1 ⟨fun q q1 q2 => by rw [z2 q q1]; exact Gq q q1 (by omega) (by omega), fun q q1 q2 j hj => by rw [z2 q (by omega)]; exact Gs q q1 q2 j hj, fun s s1 s2 _ _ _ => z3 s s1 s2, z4⟩
  · intro Z z0 z1 zt z2 z3 z4 z20 zn zw
    have ok2 := (sOnly_ok z0).1
    have ok1 : (nP_ (tk B L) t 1).2.1 = 0 := by rw [nP_s] at ok2; exact (sOnly_ok ok2).1
    have e59 : sOnly (tk B L) 59 (nP_ (tk B L) t 2) = (t + 3 + 2, 0, 0) := by rw [(sOnly_ok z0).2.2.2, (nP_ok ok2).1]
    rw [z3 19 (by decide) (by decide) (by decide) (by decide) (by decide) (by decide), r5]
    refine ok_ck sd rfl (by omega) (by decide) (ok_ck sd rfl (by omega) (by decide) ?_)
    rw [qi_cl (by omega), z2 18 (by decide), Gq 18 (by decide) (by decide) (by decide), hS9, nI_1]
    simp only [qb_e]
    refine ok_s ?_
    have wq : ∀ q, q ≠ 18 → (qv_si Z 18 sd (nI (c.2.2 + 1))).1 q = Z.1 q := fun q hq => by rw [qs_si, qs_ne hq]
    have w18 : (qv_si Z 18 sd (nI (c.2.2 + 1))).1 18 = upd (S.1 18) sd (nI (c.2.2 + 1)) := by rw [qs_si, qs_eq, z2 18 (by decide), Gq 18 (by decide) (by decide) (by decide)]
    have w0 : (qv_si Z 18 sd (nI (c.2.2 + 1))).1 0 = Z.1 0 := wq 0 (by decide)
    unfold tlQ
    rw [he, e59]
    rw [e59] at z1
    refine ⟨lM_si z1 (Or.inl (by decide)), ⟨fun q q1 q2 => ?_, fun q q1 q2 j hj => ?_, fun s s1 s2 _ _ _ => ?_, z4⟩, fun _ => ⟨t + 3 + 2, rfl, ?_⟩⟩
    · rw [wq q (by omega), z2 q q1]; exact Gq q q1 (by omega) (by omega)
    · by_cases e : q = 18
      · subst e
        rw [w18, upd_ne (fun z => hj (by rw [z, wid_1 (by omega), Nat.div_one]))]
      · rw [wq q e, z2 q (by omega)]; exact Gs q q1 q2 j hj
    · rw [w0]; exact z3 s (by omega) (by omega) (by omega) (by omega) (by omega) s2
    · refine rS_data hL hp hsd h (he.trans e59) (lM_si z1 (Or.inl (by decide))) (tkM_fr zt (wq 3 (by decide)) (wq 4 (by decide)) (wq 5 (by decide)) rfl) (fun q q1 q2 => ?_) (by rw [w0]; exact z3 12 (by decide) (by decide) (by decide) (by decide) (by decide) (by decide)) (by rw [w0]; exact z3 19 (by decide) (by decide) (by decide) (by decide) (by decide) (by decide)) (by rw [w0]; exact z3 39 (by decide) (by decide) (by decide) (by decide) (by decide) (by decide)) (by rw [w0]; exact z3 45 (by decide) (by decide) (by decide) (by decide) (by decide) (by decide)) ?_ (tel_W (Or.inl (by omega))) (by rw [w0]; exact z20) zn (wM_fr zw (by rw [w0]) (by rw [w0]))
      · rw [wq q (by omega), z2 q (by omega)]; exact Gq q (by omega) (by omega) (by omega)
      · unfold tel
        rw [if_neg (show ¬ tk B L t = 0 by omega), if_neg (show ¬ tk B L t = 1 by omega), if_neg (show ¬ tk B L t = 2 by omega), if_pos hk]
        refine mDat_S r8 (by rw [w18, hn0]) ?_ ?_ (fun r q1 q2 q3 q4 q5 => ?_)
        · rw [wq 19 (by decide), z2 19 (by decide), G19, hn0, av ok1]
        · rw [wq 20 (by decide), z2 20 (by decide), G20, hn0, gv ok2]
        · rw [wq r (by omega), z2 r (by omega)]; exact Gq r (by omega) q4 q5
theorem placeM {B : Nat → Nat} {L sd t : Nat} {c : Nat × Nat × Nat} {S T : qv_St} (hL : L ≤ 2000) (hp : ∀ i, i < nT B L → ps B L i < L) (hsd : sd ≤ 1) (h : rS B L sd t c S) (hk : tk B L t = 2) (hc : c.2.1 < 4) (tl : lM B L (sPass (t, 0, 0)) T) (t0 : (sPass (t, 0, 0)).2.1 = 0) (tf : fmP S T) :
    okk (qv_cm (fX12_named T) fun S_10 r_3 =>
      qv_ck (S_10.1 0 19) 2 <|
      qv_cm (fX12_bounded S_10 0 9) fun S_11 r_4 =>
      qv_ck ((4 * (S_10.1 0 19)) + (S_10.1 16 (Int32.toNatClampNeg (S_10.1 0 19)))) 8 <| qv_b (qv_si S_11 17 (Int32.toNatClampNeg ((4 * (S_10.1 0 19)) + (S_10.1 16 (Int32.toNatClampNeg (S_10.1 0 19))))) r_4) fun S_12 =>
      (fX12_ends S_12 r_3).bind fun S_13 =>
      if (S_13.1 0 13) = 0 then
        qv_ck (S_13.1 0 19) 2 <|
        qv_ck (S_13.1 0 19) 2 <| qv_b (qv_si S_13 16 (Int32.toNatClampNeg (S_13.1 0 19)) ((S_13.1 16 (Int32.toNatClampNeg (S_13.1 0 19))) + 1)) fun S_14 =>
        some S_14
      else
        some S_13) (fun Z => tlQ B L sd t c S Z) := by
  obtain ⟨r1, r2, r3, r4, r5, r6, r7, r8, r9, r10, r11⟩ := id h
  have h4 := r2.2.1
  have hcn : c = cnD (dat (tk B L) (tvn B L) t).1 := r2.2.2.1
  have hs : c.1 + c.2.1 + c.2.2 < 18 := by have := r2.2.2.2.1; have := r2.2.2.2.2.2.1; omega
  have hn0 : (dat (tk B L) (tvn B L) t).1 9 1 = c.2.1 := by rw [hcn]; rfl
  have he : tellS (tk B L) (tvn B L) c (t, 0, 0) = sOnly (tk B L) 59 (nP_ (tk B L) t 1) := by
    unfold tellS roomS
    rw [if_neg (show ¬ tk B L t = 0 by omega), if_neg (show ¬ tk B L t = 1 by omega), if_pos hk, if_pos hc]; rfl
  have hS9 : S.1 16 sd = nI c.2.1 := by rw [← hn0]; exact r8.2.1
  refine ok_cm (namedX hL hp h (by omega) hs tl t0 tf) ?_
  rintro X r ⟨n1, n2, n3, n4⟩
  have n1 : r = nI (t + 1) := n1
  subst n1
  have n3 : fmB S X := n3
  rw [n3.2.1 19 (by decide) (by decide) (by decide) (by decide) (by decide), r5]
  refine ok_ck sd rfl (by omega) (by decide) ?_
  have hix : 4 * nI sd + nI c.2.1 = nI (4 * sd + c.2.1) := by rw [show (4 : Int32) = nI 4 from rfl, pk_mul, nI_add]
  rw [qi_cl (show sd < 2 ^ 31 by omega), n3.1 16 (by decide), hS9, hix, qi_cl (by omega)]
  refine bstep (q := 17) (j := 0) (a := 0) (b := 9) hL hp (by omega) h4 r3 r2.1 (by omega) (by decide) (by decide) (by decide) (by decide) (by omega) (by decide) n2 (fmB_tk r4 n3) n4 (fun v => by rw [hk]; exact fit22 v) ?_
  rintro G gl gt gq ⟨v1, g17, gv⟩ g0 g2 gw
  have G0 : ∀ s, s ≠ 11 → s ≠ 13 → s ≠ 14 → s ≠ 15 → s ≠ 16 → G.1 0 s = S.1 0 s := fun s s1 s2 s3 s4 s5 => by rw [g0 s s1 s2 s3 s4 s5, n3.2.1 s s1 s2 s3 s4 s5]
  have G2 : G.2 = S.2 := by rw [g2]; exact n3.2.2
  have Gq : ∀ q, q ≠ 0 → q ≠ 17 → G.1 q = S.1 q := fun q q1 q2 => by rw [gq q q1 q2]; exact n3.1 q q1
  have G17 : G.1 17 = upd (S.1 17) (4 * sd + c.2.1) v1 := by rw [g17]; rw [n3.1 17 (by decide)]
  have hd4 : ∀ j, j / 4 ≠ sd → j ≠ 4 * sd + c.2.1 := fun j hj z => hj (by omega)
  have Gs : ∀ q, 9 ≤ q → q ≤ 32 → ∀ j, j / wid q ≠ sd → G.1 q j = S.1 q j := by
    intro q q1 q2 j hj
    by_cases e : q = 17
    · subst e
      rw [G17, upd_ne (hd4 j hj)]
    rw [Gq q (by omega) e]
  refine endN hL hp h (by omega) hs gl gt G0 G2 gw ?_ ?_
  · intro Z z0 z1 z2 z3 z4
    exact badN he z0 z1 ⟨fun q q1 q2 => by rw [z2 q q1]; exact Gq q q1 (by omega), fun q q1 q2 j hj => by rw [z2 q (by omega)]; exact Gs q q1 q2 j hj, fun s s1 s2 _ _ _ => z3 s s1 s2, z4⟩
  · intro Z z0 z1 zt z2 z3 z4 z20 zn zw
    have ok1 := (sOnly_ok z0).1
    have e59 : sOnly (tk B L) 59 (nP_ (tk B L) t 1) = (t + 3 + 1, 0, 0) := by rw [(sOnly_ok z0).2.2.2, (nP_ok ok1).1]
    rw [z3 19 (by decide) (by decide) (by decide) (by decide) (by decide) (by decide), r5]
    refine ok_ck sd rfl (by omega) (by decide) (ok_ck sd rfl (by omega) (by decide) ?_)
    rw [qi_cl (by omega), z2 16 (by decide), Gq 16 (by decide) (by decide), hS9, nI_1]
    simp only [qb_e]
    refine ok_s ?_
    have wq : ∀ q, q ≠ 16 → (qv_si Z 16 sd (nI (c.2.1 + 1))).1 q = Z.1 q := fun q hq => by rw [qs_si, qs_ne hq]
    have w16 : (qv_si Z 16 sd (nI (c.2.1 + 1))).1 16 = upd (S.1 16) sd (nI (c.2.1 + 1)) := by rw [qs_si, qs_eq, z2 16 (by decide), Gq 16 (by decide) (by decide)]
    have w0 : (qv_si Z 16 sd (nI (c.2.1 + 1))).1 0 = Z.1 0 := wq 0 (by decide)
    unfold tlQ
    rw [he, e59]
    rw [e59] at z1
    refine ⟨lM_si z1 (Or.inl (by decide)), ⟨fun q q1 q2 => ?_, fun q q1 q2 j hj => ?_, fun s s1 s2 _ _ _ => ?_, z4⟩, fun _ => ⟨t + 3 + 1, rfl, ?_⟩⟩
    · rw [wq q (by omega), z2 q q1]; exact Gq q q1 (by omega)
    · by_cases e : q = 16
      · subst e
        rw [w16, upd_ne (fun z => hj (by rw [z, wid_1 (by omega), Nat.div_one]))]
      · rw [wq q e, z2 q (by omega)]; exact Gs q q1 q2 j hj
    · rw [w0]; exact z3 s (by omega) (by omega) (by omega) (by omega) (by omega) s2
    · refine rS_data hL hp hsd h (he.trans e59) (lM_si z1 (Or.inl (by decide))) (tkM_fr zt (wq 3 (by decide)) (wq 4 (by decide)) (wq 5 (by decide)) rfl) (fun q q1 q2 => ?_) (by rw [w0]; exact z3 12 (by decide) (by decide) (by decide) (by decide) (by decide) (by decide)) (by rw [w0]; exact z3 19 (by decide) (by decide) (by decide) (by decide) (by decide) (by decide)) (by rw [w0]; exact z3 39 (by decide) (by decide) (by decide) (by decide) (by decide) (by decide)) (by rw [w0]; exact z3 45 (by decide) (by decide) (by decide) (by decide) (by decide) (by decide)) ?_ (tel_W (Or.inl (by omega))) (by rw [w0]; exact z20) zn (wM_fr zw (by rw [w0]) (by rw [w0]))
      · rw [wq q (by omega), z2 q (by omega)]; exact Gq q (by omega) (by omega)
      · unfold tel
        rw [if_neg (show ¬ tk B L t = 0 by omega), if_neg (show ¬ tk B L t = 1 by omega), if_pos hk]
        refine mDat_P r8 (by rw [w16, hn0]) ?_ (fun r q1 q2 q3 q4 => ?_)
        · rw [wq 17 (by decide), z2 17 (by decide), G17, hn0, gv ok1]
        · rw [wq r (by omega), z2 r (by omega)]; exact Gq r (by omega) q4
