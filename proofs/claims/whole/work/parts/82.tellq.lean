/-! the reference's TELLS: numbers alone, laws, all -/
theorem wM_rg {B : Nat → Nat} {L a : Nat} {S : qv_St} : ∀ d, (∀ i, a ≤ i → i < a + d → ∀ x, ¬ isBad (tk B L) (tvn B L) (smN B L) i x) → wM B L a S → wM B L (a + d) S
  | 0, _, h => h
  | d + 1, hb, h => wM_skip (wM_rg d (fun i i1 i2 => hb i i1 (by omega)) h) (hb (a + d) (by omega) (by omega))
theorem mDat_9 {sd j a q : Nat} {D : Nat → Nat → Nat} {G G' : Nat → Nat → Int32} (hj : (j = 15 ∧ q = 21) ∨ (j = 16 ∧ q = 22) ∨ (j = 17 ∧ q = 23)) (h : mDat sd D G) (hq : G' q = upd (G q) sd (nI a)) (hr : ∀ r, 9 ≤ r → r ≤ 23 → r ≠ q → G' r = G r) : mDat sd (set9 D j a) G' := by
  obtain ⟨a2, a3, a4, a5, a6, a7, a8, a9, a10⟩ := h
  have st : ∀ k r, 9 ≤ r → r ≤ 23 → ((k = j ∧ r = q) ∨ (k ≠ j ∧ r ≠ q)) → G r sd = nI (D 9 k) → G' r sd = nI (set9 D j a 9 k) := by
    intro k r r1 r2 hkr hg
    rcases hkr with ⟨e1, e2⟩ | ⟨e1, e2⟩
    · rw [e1, e2, hq, upd_eq, set9_j]
    · rw [hr r r1 r2 e2, set9_q (Or.inr e1)]; exact hg
  refine ⟨st 0 9 (by decide) (by decide) (by omega) a2, st 1 16 (by decide) (by decide) (by omega) a3, st 2 18 (by decide) (by decide) (by omega) a4, st 15 21 (by decide) (by decide) (by omega) a5, st 16 22 (by decide) (by decide) (by omega) a6, st 17 23 (by decide) (by decide) (by omega) a7, fun r r1 r2 k hk => ?_, fun p hp => ?_, fun s hs => ?_⟩
  · rw [set9_q (Or.inr (by omega))] at hk
    rw [hr r (by omega) (by omega) (by omega), set9_q (Or.inl (by omega))]; exact a8 r r1 r2 k hk
  · rw [set9_q (Or.inr (by omega))] at hp
    rw [hr 17 (by decide) (by decide) (by omega), set9_q (Or.inl (by decide))]; exact a9 p hp
  · rw [set9_q (Or.inr (by omega))] at hs
    rw [hr 19 (by decide) (by decide) (by omega), hr 20 (by decide) (by decide) (by omega), set9_q (Or.inl (by decide)), set9_q (Or.inl (by decide))]; exact a10 s hs
theorem oneM {B : Nat → Nat} {L sd t q lim : Nat} {c : Nat × Nat × Nat} {S : qv_St} (hL : L ≤ 2000) (hp : ∀ i, i < nT B L → ps B L i < L) (hsd : sd ≤ 1) (h : rS B L sd t c S) (hk : (tk B L t = 7 ∧ q = 21 ∧ lim = 99) ∨ (tk B L t = 8 ∧ q = 22 ∧ lim = 9999) ∨ (tk B L t = 9 ∧ q = 23 ∧ lim = 9999)) :
    okk ((fX12_goesOn S).bind fun S_29 => qv_cm (fX12_bounded S_29 0 (nI lim)) fun S_30 r_5 => qv_ck (S_29.1 0 19) 2 <| qv_b (qv_si S_30 q (Int32.toNatClampNeg (S_29.1 0 19)) r_5) fun S_31 => (fX12_must S_31 4).bind fun S_32 => some S_32) (fun Z => tlQ B L sd t c S Z) := by
  obtain ⟨r1, r2, r3, r4, r5, r6, r7, r8, r9, r10, r11⟩ := id h
  have h4 := r2.2.1
  have hq0 : qW B L (t, 0, 0) := ⟨⟨h4, Nat.zero_le _⟩, fun _ => r3⟩
  have hq1 : qW B L (sPass (t, 0, 0)) := sPass_q hq0 (fun _ => by show tk B L t ≠ 24; omega)
  have he : tellS (tk B L) (tvn B L) c (t, 0, 0) = sOnly (tk B L) 59 (sOnly (tk B L) 23 (sPass (t, 0, 0))) := by
    unfold tellS
    rw [if_neg (show ¬ tk B L t = 0 by omega), if_neg (show ¬ tk B L t = 1 by omega), if_neg (show ¬ tk B L t = 2 by omega), if_neg (show ¬ tk B L t = 3 by omega), if_neg (show ¬ tk B L t ≤ 6 by omega), if_pos (show tk B L t ≤ 9 by omega)]
  have hh1 : hdT (tk B L) (t + 1) = t := by rw [hdT, if_neg (by omega)]; exact r2.1
  refine ok_bd (goesL r1 hq0 r4) ?_
  rintro Y ⟨y1, y2⟩
  have hb := boundedM (a := 0) (b := lim) hL hp y1 hq1 (fmP_tk r4 y2) (by decide) (by omega) (fun z => by
    obtain ⟨_, _, e⟩ := sPass_ok z
    rw [e]
    exact wM_P (wM_skip (t := t) r11 (not_bad (K := tk B L) (i := t) (by omega) (by omega))) y2) (fun z _ => by
    obtain ⟨_, _, e⟩ := sPass_ok z
    rw [e]
    show (0 ≤ tvn B L (t + 1) ∧ tvn B L (t + 1) ≤ lim) ↔ fitP (tk B L (hdT (tk B L) (t + 1))) (t + 1 - hdT (tk B L) (t + 1)) (tvn B L (t + 1))
    have hv := tvn_lt hL hp (t + 1)
    rw [hh1]
    rcases hk with ⟨k1, _, k3⟩ | ⟨k1, _, k3⟩ | ⟨k1, _, k3⟩
    · rw [k1, k3]; simp [fitP]
    · rw [k1, k3]; simp [fitP]; exact hv
    · rw [k1, k3]; simp [fitP]; exact hv)
  refine ok_cm hb ?_
  rintro A v ⟨a1, a2, a3⟩
  have a2 : fmB Y A := a2
  rw [y2.2.1 19 (by decide) (by decide) (by decide), r5]
  refine ok_ck sd rfl (by omega) (by decide) ?_
  rw [qi_cl (by omega)]
  refine ok_b (fun X => X = qv_si A q sd v) rfl ?_
  rintro X hX
  have qne : q ≠ 0 := by omega
  have xl : lM B L (sOnly (tk B L) 23 (sPass (t, 0, 0))) X := by rw [hX]; exact lM_si a1 (Or.inl qne)
  have xq : ∀ r, r ≠ 0 → r ≠ q → X.1 r = S.1 r := fun r q1 q2 => by rw [hX, qs_si, qs_ne q2, a2.1 r q1, y2.1 r q1]
  have xqq : X.1 q = upd (S.1 q) sd v := by rw [hX, qs_si, qs_eq, a2.1 q qne, y2.1 q qne]
  have x0 : ∀ s, s ≠ 11 → s ≠ 13 → s ≠ 14 → s ≠ 15 → s ≠ 16 → X.1 0 s = S.1 0 s := fun s s1 s2 s3 s4 s5 => by rw [hX, qs_si, qs_ne (Ne.symm qne), a2.2.1 s s1 s2 s3 s4 s5]; exact y2.2.1 s s1 s2 s3
  have x15 : X.1 0 15 = A.1 0 15 := by rw [hX, qs_si, qs_ne (Ne.symm qne)]
  have x16 : X.1 0 16 = A.1 0 16 := by rw [hX, qs_si, qs_ne (Ne.symm qne)]
  have x2 : X.2 = S.2 := by rw [hX]; exact a2.2.2.trans y2.2.2
  clear hX
  have xt : tkM' B L X := tkM_fr r4 (xq 3 (by decide) (by omega)) (xq 4 (by decide) (by omega)) (xq 5 (by decide) (by omega)) (by rw [x2])
  refine ok_bd (mustL (k := 59) xl (sOnly_q hq1 (by decide)) xt rfl) ?_
  rintro Z ⟨z1, z2⟩
  have w1 : wid q = 1 := wid_1 (by omega)
  refine ok_s ⟨by rw [he]; exact z1, ⟨fun r q1 q2 => by rw [z2.1 r q1]; exact xq r q1 (by omega), fun r q1 q2 j hj => ?_, fun s s1 s2 _ _ _ => by rw [z2.2.1 s (by omega) (by omega) (by omega)]; exact x0 s (by omega) (by omega) (by omega) (by omega) (by omega), fun r _ => by rw [z2.2.2, x2]⟩, fun z => ?_⟩
  · rw [z2.1 r (by omega)]
    by_cases e : r = q
    · rw [e] at hj ⊢
      rw [w1, Nat.div_one] at hj
      rw [xqq, upd_ne hj]
    · rw [xq r (by omega) e]
  · rw [he] at z ⊢
    obtain ⟨p1, p2, p3, p4⟩ := sOnly_ok z
    obtain ⟨q1, q2, q3, q4⟩ := sOnly_ok p1
    obtain ⟨_, u2, u3⟩ := sPass_ok q1
    rw [u3] at q2 q4
    have e2 : sOnly (tk B L) 23 (sPass (t, 0, 0)) = (t + 2, 0, 0) := by rw [u3, q4]
    rw [e2] at p2 p4
    have p2 : tk B L (t + 2) = 59 := p2
    have q2 : tk B L (t + 1) = 23 := q2
    have e3 : sOnly (tk B L) 59 (sOnly (tk B L) 23 (sPass (t, 0, 0))) = (t + 3, 0, 0) := by rw [e2]; exact p4
    obtain ⟨v1, v2⟩ := a3 p1
    have v1 : v = nI (tvn B L (sPass (t, 0, 0)).1) := v1
    have v2 : wM B L ((sPass (t, 0, 0)).1 + 1) A := v2
    rw [u3] at v1 v2
    have v1 : v = nI (tvn B L (t + 1)) := v1
    have v2 : wM B L (t + 2) A := v2
    refine ⟨t + 3, e3, ?_⟩
    rw [e3] at z1
    obtain ⟨m1, m2⟩ := nmA_rg (b := 27) 3 (fun i i1 i2 => by
      rcases (by omega : i = t ∨ i = t + 1 ∨ i = t + 2) with e | e | e
      · rw [e]; omega
      · rw [e, q2]; decide
      · rw [e, p2]; decide) r10
    refine rS_data hL hp hsd h (he.trans e3) z1 (fmP_tk xt z2) (fun r q1 q2 => by rw [z2.1 r (by omega)]; exact xq r (by omega) (by omega)) (by rw [z2.2.1 12 (by decide) (by decide) (by decide)]; exact x0 12 (by decide) (by decide) (by decide) (by decide) (by decide)) (by rw [z2.2.1 19 (by decide) (by decide) (by decide)]; exact x0 19 (by decide) (by decide) (by decide) (by decide) (by decide)) (by rw [z2.2.1 39 (by decide) (by decide) (by decide)]; exact x0 39 (by decide) (by decide) (by decide) (by decide) (by decide)) (by rw [z2.2.1 45 (by decide) (by decide) (by decide)]; exact x0 45 (by decide) (by decide) (by decide) (by decide) (by decide)) ?_ (tel_W (Or.inr (by omega))) (by rw [z2.2.1 20 (by decide) (by decide) (by decide), x0 20 (by decide) (by decide) (by decide) (by decide) (by decide), m2]; exact r9) (by rw [z2.2.2, x2]; exact m1) (wM_P (wM_fr (wM_skip v2 (not_bad (by omega) (by omega))) x15 x16) z2)
    unfold tel
    rw [if_neg (show ¬ tk B L t = 0 by omega), if_neg (show ¬ tk B L t = 1 by omega), if_neg (show ¬ tk B L t = 2 by omega), if_neg (show ¬ tk B L t = 3 by omega), if_neg (show ¬ tk B L t ≤ 6 by omega), if_pos (show tk B L t ≤ 9 by omega)]
    refine mDat_9 (q := q) (by omega) r8 ?_ (fun r q1 q2 q3 => by rw [z2.1 r (by omega)]; exact xq r (by omega) q3)
    rw [z2.1 q qne, xqq, v1]
theorem lawM {B : Nat → Nat} {L sd t k : Nat} {c : Nat × Nat × Nat} {S : qv_St} (hL : L ≤ 2000) (hp : ∀ i, i < nT B L → ps B L i < L) (hsd : sd ≤ 1) (h : rS B L sd t c S) (hk : tk B L t = 4 + k) (hk3 : k < 3) :
    okk ((fX12_goesOn S).bind fun S_18 => (fX12_tellLaw S_18 (nI k)).bind fun S_19 => some S_19) (fun Z => tlQ B L sd t c S Z) := by
  have hV : ∀ i, tvn B L i < 2 ^ 31 := fun i => by have := tvn_lt hL hp i; omega
  obtain ⟨r1, r2, r3, r4, r5, r6, ⟨cd, br, s1, s2, s3, s4, s5, s6, s7⟩, r8, r9, r10, r11⟩ := id h
  have h4 := r2.2.1
  have hq0 : qW B L (t, 0, 0) := ⟨⟨h4, Nat.zero_le _⟩, fun _ => r3⟩
  have hq1 : qW B L (sPass (t, 0, 0)) := sPass_q hq0 (fun _ => by show tk B L t ≠ 24; omega)
  have he : tellS (tk B L) (tvn B L) c (t, 0, 0) = (lawR (tk B L) (tvn B L) 5 (sOnly (tk B L) 61 (sPass (t, 0, 0)))).1 := by
    unfold tellS
    rw [if_neg (show ¬ tk B L t = 0 by omega), if_neg (show ¬ tk B L t = 1 by omega), if_neg (show ¬ tk B L t = 2 by omega), if_neg (show ¬ tk B L t = 3 by omega), if_pos (show tk B L t ≤ 6 by omega)]
  refine ok_bd (goesL r1 hq0 r4) ?_
  rintro Y ⟨y1, y2⟩
  refine ok_bd (tellLawM (c0 := cd) (b0 := br) hV y1 hq1 (fmP_tk r4 y2) hsd (by rw [y2.2.1 19 (by decide) (by decide) (by decide)]; exact r5) hk3 (by rw [y2.2.1 39 (by decide) (by decide) (by decide)]; exact s4) s5 (by omega) s2 (fun z => ?_)) ?_
  · obtain ⟨_, _, e⟩ := sPass_ok z
    rw [e]
    refine ⟨by rw [y2.2.1 12 (by decide) (by decide) (by decide)]; exact r6, by rw [y2.2.1 45 (by decide) (by decide) (by decide)]; exact s1, ?_, ?_⟩
    · show cd ≤ 420 * sd + (t + 1); omega
    · show 4 * br + 1 ≤ 520 * sd + (t + 1); omega
  rintro Z ⟨z1, z2, z3⟩
  have z2 : fmW sd cd br (3 * sd + k) Y Z := z2
  have zf := fmW_PT y2 z2
  refine ok_s ⟨by rw [he]; exact z1, fmS_W zf hk3 s5 s2, fun z => ?_⟩
  have z0 := z
  rw [he] at z0
  obtain ⟨t', e1, e2, e3, e4⟩ := tellS_ok hV z
  refine ⟨t', e1, ?_⟩
  obtain ⟨w24, w25, wb, wne, w12, w39, w4, cd', w45, wc1, wc2, wU⟩ := z3 z0
  rw [he] at e1
  have sh := e4
  rcases e4 with ⟨g, _⟩ | ⟨g, _⟩ | ⟨g, _⟩ | ⟨g, _⟩ | ⟨g, g1, g2, g3⟩ | ⟨g, _⟩
  · omega
  · omega
  · omega
  · omega
  · have hpo : (sOnly (tk B L) 61 (sPass (t, 0, 0))).2.1 = 0 := by
      by_cases gg : (sOnly (tk B L) 61 (sPass (t, 0, 0))).2.1 = 0
      · exact gg
      · rw [lawR_f gg] at z0; exact z0
    obtain ⟨p1, p2, p3, p4⟩ := sOnly_ok hpo
    obtain ⟨_, _, u3⟩ := sPass_ok p1
    have ep : sOnly (tk B L) 61 (sPass (t, 0, 0)) = (t + 2, 0, 0) := by rw [p4, u3]
    rw [ep] at w25 wb wne w39 w4 wc2 wU
    rw [g3] at w4 wc2
    have w4 : 4 * (br + (lawR (tk B L) (tvn B L) 5 (t + 2, 0, 0)).2.length) ≤ 520 * sd + t' := w4
    have wc2 : cd' ≤ 420 * sd + t' := wc2
    obtain ⟨i1, i2, i3, i4⟩ := gdT_in hV r2.1 e2 e3 sh
    obtain ⟨k1, k2, k3, _, _⟩ := shT_tok hV e2 e3 sh
    have hin := (tk_in (B := B) (L := L) (i := t' - 1) (by omega)).1
    have noN : ∀ i, t ≤ i → i < t' → tk B L i ≠ 22 := fun i j1 j2 jz => by have := (k3 i j1 j2 jz).2; omega
    obtain ⟨m1, m2⟩ := nmA_rg (b := 27) (t' - t) (fun i j1 j2 => noN i j1 (by omega)) r10
    rw [show t + (t' - t) = t' by omega] at m1 m2
    have zlt : lM B L (t', 0, 0) Z := by rw [← e1]; exact z1
    refine ⟨zlt, gdT_step hV r2 e2 e3 sh, by omega, tkM_fr r4 (zf.1 3 (by decide) (by decide)) (zf.1 4 (by decide) (by decide)) (zf.1 5 (by decide) (by decide)) (by rw [zf.2.2.2.2.1]), by rw [zf.2.2.2.1 19 (by decide) (by decide) (by decide) (by decide) (by decide) (by decide) (by decide)]; exact r5, w12, ⟨cd', br + (lawR (tk B L) (tvn B L) 5 (t + 2, 0, 0)).2.length, w45, by omega, wc2, w39, by omega, w4, ?_⟩, ?_, ?_, by rw [zf.2.2.2.2.1]; exact m1, ?_⟩
    · rw [i3]
      intro j hj
      have eW : (tel (tk B L) (tvn B L) t (dat (tk B L) (tvn B L) t)).2 j = if j = k then (lawR (tk B L) (tvn B L) 5 (t + 2, 0, 0)).2 else (dat (tk B L) (tvn B L) t).2 j := by
        unfold tel
        rw [if_neg (show ¬ tk B L t = 0 by omega), if_neg (show ¬ tk B L t = 1 by omega), if_neg (show ¬ tk B L t = 2 by omega), if_neg (show ¬ tk B L t = 3 by omega), if_pos (show tk B L t ≤ 6 by omega), show tk B L t - 4 = k by omega]
      rw [eW]
      by_cases ej : j = k
      · subst ej
        rw [if_pos rfl]
        have hd3 : (3 * sd + j) / 3 = sd := by omega
        refine ⟨Or.inr ⟨br, w24, w25, ⟨by omega, by rw [hd3]; exact s5, by rw [hd3]; omega⟩, wne, wb⟩, Or.inr ⟨br, _, w24, w25, Nat.le_refl _, wU⟩⟩
      · rw [if_neg ej]
        refine mLaw_gr (br := br) (cd := cd) (by omega) (by omega) (by omega) wc1 (zf.2.1 24 (Or.inl rfl) _ (by omega)) (zf.2.1 25 (Or.inr rfl) _ (by omega)) (fun q q1 q2 i hi => zf.2.2.1 q q1 q2 i (Or.inl hi)) (fun i hi => zf.2.2.2.2.2 i (Or.inl hi)) (s7 j hj).1 (s7 j hj).2
    · rw [i3]
      have eD : (tel (tk B L) (tvn B L) t (dat (tk B L) (tvn B L) t)).1 = (dat (tk B L) (tvn B L) t).1 := by
        unfold tel
        rw [if_neg (show ¬ tk B L t = 0 by omega), if_neg (show ¬ tk B L t = 1 by omega), if_neg (show ¬ tk B L t = 2 by omega), if_neg (show ¬ tk B L t = 3 by omega), if_pos (show tk B L t ≤ 6 by omega)]
      rw [eD]
      exact mDat_G (fun q q1 q2 => zf.1 q (by omega) (by omega)) r8
    · rw [zf.2.2.2.1 20 (by decide) (by decide) (by decide) (by decide) (by decide) (by decide) (by decide), m2]; exact r9
    · have := wM_rg (t' - t) (fun i j1 j2 x hx => by
        rcases hx with hx | hx
        · exact noN i j1 (by omega) hx.2.1
        · refine hx.2.2 ?_
          rw [(i1 i j1 (by omega)).1]
          exact ⟨fun y => by omega, fun y => by omega, fun y => by omega, fun y => by omega, fun y => by omega⟩) r11
      rw [show t + (t' - t) = t' by omega] at this
      exact wM_fr this (zf.2.2.2.1 15 (by decide) (by decide) (by decide) (by decide) (by decide) (by decide) (by decide)) (zf.2.2.2.1 16 (by decide) (by decide) (by decide) (by decide) (by decide) (by decide) (by decide))
  · omega
