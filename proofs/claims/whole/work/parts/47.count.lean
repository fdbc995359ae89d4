/-! count -/
theorem bc8 : ∀ b, b < 8 → fJ6_bitCount_0f7a4 (nI b) = some (nI (cn (inS b) 3)) := by decide
theorem rel_count {i : Nat} {S1 S2 : qv_St} (a : Int32) (hi : i + 6 ≤ 3072) (hr : Rel i S1 S2) : ∃ (S1' : qv_St) (S2' : qv_St) (r : Int32), fX11_count S1 a = some (S1', r) ∧ fX12_count S2 a = some (S2', r) ∧ Rel (i + 6) S1' S2' := by
  obtain ⟨E, lv, n, h, sl, tn, tp, ts, tz, r⟩ := hr
  have h1 := r.2.1.1
  have h2 := r.2.2.1.1
  have hv := h1.1
  have hw := RB_w (by omega) r
  have h8 := hv.1.1
  have h6 := hv.1.2.2.1
  have h0 := hv.2.2 0 (by decide)
  unfold fX11_count fX12_count
  obtain ⟨T, eT, hT, hf⟩ := copiesQ h2
  rw [eT, Option.bind_some]
  obtain ⟨w0, w1, w2, w3, w4, w5⟩ := cR_31 h1.2.1.2.1
  obtain ⟨a0, a1, a2, a3, a4, a5, a6, a7, a8, a9, a10, a11⟩ := hT.1
  have fin : ∀ v, ∃ (S1' : qv_St) (S2' : qv_St) (rr : Int32), some (S1, v) = some (S1', rr) ∧ some (T, v) = some (S2', rr) ∧ Rel (i + 6) S1' S2' := fun v => ⟨S1, T, v, rfl, rfl, E, lv, n, h, sl, tn, tp, ts, tz, RB_mono (by omega) (RB_ask r h1 frE_rf hf)⟩
  have fin2 : ∀ {o1 o2 : Option (qv_St × Int32)} (v : Int32), okk o1 (fun z => z.2 = v ∧ qC E z.1 ∧ frE S1 z.1) → okk o2 (fun z => z.2 = v ∧ frQ S2 z.1) → ∃ (S1' : qv_St) (S2' : qv_St) (rr : Int32), o1 = some (S1', rr) ∧ o2 = some (S2', rr) ∧ Rel (i + 6) S1' S2' := by
    intro o1 o2 v g1 g2
    obtain ⟨⟨T1, v1⟩, f1, f2, f3, f4⟩ := g1
    obtain ⟨⟨T2, v2⟩, k1, k2, k3⟩ := g2
    have f2 : v1 = v := f2
    have k2 : v2 = v := k2
    subst f2
    subst k2
    exact ⟨T1, T2, v2, f1, k1, E, lv, n, h, sl, tn, tp, ts, tz, RB_mono (by omega) (RB_ask r f3 f4 k3)⟩
  have hck : ∀ {ρ : Type} {o : Option ρ}, qv_ck (T.1 0 18) 2 o = o := fun {ρ} {o} => by rw [a1]; exact qi_ck (by omega) (by decide)
  have hcl : Int32.toNatClampNeg (T.1 0 18) = lv := by rw [a1]; exact qi_cl (by omega)
  rcases swI a 13 (by decide) with g | ⟨j, hj, rfl, g⟩
  · have g1 : ∀ (os : List (Option (qv_St × Int32))) d, qv_sw a 0 13 os d = d := g (qv_St × Int32)
    rw [g1, g1]
    exact fin _
  · have g1 : ∀ (os : List (Option (qv_St × Int32))) d, qv_sw (nI j) 0 13 os d = (os[j]?).getD none := g (qv_St × Int32)
    rw [g1, g1]
    rcases (by omega : j = 0 ∨ j = 1 ∨ j = 2 ∨ j = 3 ∨ j = 4 ∨ j = 5 ∨ j = 6 ∨ j = 7 ∨ j = 8 ∨ j = 9 ∨ j = 10 ∨ j = 11 ∨ j = 12 ∨ j = 13) with rfl | rfl | rfl | rfl | rfl | rfl | rfl | rfl | rfl | rfl | rfl | rfl | rfl | rfl
    all_goals simp only [List.getElem?_cons_zero, List.getElem?_cons_succ, Option.getD_some]
    · rw [hck, hcl, a2, h1.2.1.1.1]; exact fin _
    · rw [hck, hcl, a3, h1.2.1.1.2.1]; exact fin _
    · rw [hck, hcl, a4, h1.2.1.1.2.2.1]; exact fin _
    · rw [ck_c (by decide), tc0, hT.2.1 0 (by decide), w0]; exact fin _
    · rw [ck_c (by decide), tc1, hT.2.1 1 (by decide), w1]; exact fin _
    · rw [ck_c (by decide), tc2, hT.2.1 2 (by decide), w2]; exact fin _
    · rw [ck_c (by decide), tc3, hT.2.1 3 (by decide), w3]; exact fin _
    · refine fin2 (nI (bt (fun s => E.2.2.2 (12 + s) == 2 ^ (E.1 17 s) - 1) (E.1 9 2))) ?_ ?_
      · have key : okk (fX11_doneBits S1) (fun z => z = nI (bt (fun s => E.2.2.2 (12 + s) == 2 ^ (E.1 17 s) - 1) (E.1 9 2))) := by
          unfold fX11_doneBits
          have hN5 := qN
          generalize qv_N = N at hN5 ⊢
          simp only [qj_e, qb_e]
          rw [h1.2.1.1.2.2.1]
          refine ok_lp2 (fun m x1 x2 => ∃ s, m = E.1 9 2 - s ∧ s ≤ E.1 9 2 ∧ x2 = nI s ∧ x1 = nI (bt (fun s => E.2.2.2 (12 + s) == 2 ^ (E.1 17 s) - 1) s)) ?_ N (E.1 9 2) 0 0 ⟨0, rfl, by omega, rfl, rfl⟩ (by omega)
          rintro self m x1 x2 ⟨s, rfl, hs, rfl, rfl⟩ ih
          by_cases e : s = E.1 9 2
          · exact ok_pos (by rw [e]; exact Int32.le_refl _) (ok_s (by rw [e]))
          · refine ok_neg (nI_ge (by omega) (by omega)) ?_
            rw [doneC h1.2.1 hv (by omega), Option.bind_some, nI_1, or_bit (by omega) (bt_lt _)]
            by_cases z : E.2.2.2 (12 + s) = 2 ^ (E.1 17 s) - 1
            · rw [if_pos z]
              exact ok_neg n10 (ih (E.1 9 2 - (s + 1)) _ _ (by omega) ⟨s + 1, rfl, by omega, rfl, by rw [bt, if_pos (by rw [beq_iff_eq]; exact z)]⟩)
            · rw [if_neg z]
              exact ok_pos rfl (ih (E.1 9 2 - (s + 1)) _ _ (by omega) ⟨s + 1, rfl, by omega, rfl, by rw [bt, if_neg (by rw [beq_iff_eq]; exact z)]; rfl⟩)
        obtain ⟨v, ev, hvv⟩ := key
        rw [ev, Option.bind_some]
        exact ok_s ⟨hvv, h1, frE_rf⟩
      · have hN5 := qN
        generalize qv_N = N at hN5 ⊢
        simp only [qj_e, qb_e]
        refine ok_lp2 (fun m x1 x2 => ∃ s, m = E.1 9 2 - s ∧ s ≤ E.1 9 2 ∧ x2 = nI s ∧ x1 = nI (bt (fun s => E.2.2.2 (12 + s) == 2 ^ (E.1 17 s) - 1) s)) ?_ N (E.1 9 2) 0 0 ⟨0, rfl, by omega, rfl, rfl⟩ (by omega)
        rintro self m x1 x2 ⟨s, rfl, hs, rfl, rfl⟩ ih
        rw [hck, hcl, a4]
        by_cases e : s = E.1 9 2
        · exact ok_pos (by rw [e]; exact Int32.le_refl _) (ok_s ⟨by rw [e], hf⟩)
        · have e12 : 12 + nI s = nI (12 + s) := nI_add 12 s
          refine ok_neg (nI_ge (by omega) (by omega)) ?_
          rw [e12, qi_cl (by omega), hT.2.1 (12 + s) (by omega), wholeM hT.1 hv (by omega) (by have := hv.2.2 (12 + s) (by omega); omega), Option.bind_some, nI_1, or_bit (by omega) (bt_lt _)]
          refine ok_ck (12 + s) rfl (by omega) (by decide) ?_
          by_cases z : E.2.2.2 (12 + s) = 2 ^ (E.1 17 s) - 1
          · rw [if_pos z]
            exact ok_neg n10 (ih (E.1 9 2 - (s + 1)) _ _ (by omega) ⟨s + 1, rfl, by omega, rfl, by rw [bt, if_pos (by rw [beq_iff_eq]; exact z)]⟩)
          · rw [if_neg z]
            exact ok_pos rfl (ih (E.1 9 2 - (s + 1)) _ _ (by omega) ⟨s + 1, rfl, by omega, rfl, by rw [bt, if_neg (by rw [beq_iff_eq]; exact z)]; rfl⟩)
    · have hz : sm (fun s => E.2.2.2 (18 + s)) 6 = sm (fun s => E.2.2.2 (18 + s)) (E.1 9 2) := by
        have : ∀ t, E.1 9 2 + t ≤ 6 → sm (fun s => E.2.2.2 (18 + s)) (E.1 9 2 + t) = sm (fun s => E.2.2.2 (18 + s)) (E.1 9 2) := by
          intro t
          induction t with
          | zero => intro _; rfl
          | succ t iht =>
            intro ht
            rw [← Nat.add_assoc, sm, iht (by omega)]
            have := hw.2.2.2.1 (E.1 9 2 + t) (by omega) (by omega)
            show _ + E.2.2.2 (18 + (E.1 9 2 + t)) = _
            rw [this]; rfl
        have h9 := this (6 - E.1 9 2) (by omega)
        rw [show E.1 9 2 + (6 - E.1 9 2) = 6 by omega] at h9
        exact h9
      refine fin2 (nI (sm (fun s => E.2.2.2 (18 + s)) (E.1 9 2))) ?_ ?_
      · have key : okk (fX6_allTakes S1 31) (fun z => z = nI (sm (fun s => E.2.2.2 (18 + s)) 6)) := by
          unfold fX6_allTakes
          have hN5 := qN
          generalize qv_N = N at hN5 ⊢
          simp only [qb_e]
          refine ok_lp2 (fun m x1 x2 => ∃ s, m = 6 - s ∧ s ≤ 6 ∧ x2 = nI s ∧ x1 = nI (sm (fun s => E.2.2.2 (18 + s)) s)) ?_ N 6 0 0 ⟨0, rfl, by omega, rfl, rfl⟩ (by omega)
          rintro self m x1 x2 ⟨s, rfl, hs, rfl, rfl⟩ ih
          by_cases e : s = 6
          · exact ok_pos (by rw [e]; decide) (ok_s (by rw [e]))
          · have e34 : S1.1 (31 + 3) s = nI (E.2.2.2 (18 + s)) := (w5 s (by omega)).2.1
            refine ok_neg (show ¬ (6 : Int32) ≤ nI s from nI_ge (b := 6) (by omega) (by decide)) (ok_ck s rfl (by omega) (by decide) ?_)
            rw [qi_cl (by omega), e34, nI_add, nI_1]
            exact ih (6 - (s + 1)) _ _ (by omega) ⟨s + 1, rfl, by omega, rfl, rfl⟩
        obtain ⟨v, ev, hvv⟩ := key
        rw [ev, Option.bind_some]
        exact ok_s ⟨by rw [← hz]; exact hvv, h1, frE_rf⟩
      · have hN5 := qN
        generalize qv_N = N at hN5 ⊢
        simp only [qb_e]
        refine ok_lp2 (fun m x1 x2 => ∃ s, m = E.1 9 2 - s ∧ s ≤ E.1 9 2 ∧ x2 = nI s ∧ x1 = nI (sm (fun s => E.2.2.2 (18 + s)) s)) ?_ N (E.1 9 2) 0 0 ⟨0, rfl, by omega, rfl, rfl⟩ (by omega)
        rintro self m x1 x2 ⟨s, rfl, hs, rfl, rfl⟩ ih
        rw [hck, hcl, a4]
        by_cases e : s = E.1 9 2
        · exact ok_pos (by rw [e]; exact Int32.le_refl _) (ok_s ⟨by rw [e], hf⟩)
        · have e18 : 18 + nI s = nI (18 + s) := nI_add 18 s
          refine ok_neg (nI_ge (by omega) (by omega)) ?_
          rw [e18, qi_cl (by omega), hT.2.1 (18 + s) (by omega), nI_add, nI_1]
          exact ok_ck (18 + s) rfl (by omega) (by decide) (ih (E.1 9 2 - (s + 1)) _ _ (by omega) ⟨s + 1, rfl, by omega, rfl, rfl⟩)
    · obtain ⟨t, t1, t2, t3, t4⟩ := r.2.2.2.1
      rw [t2, hf.2.2 2 (by decide) (by decide) (by decide) (by decide) (by decide), t3]; exact fin _
    · have hsz : S1.1 36 2 = nI n := by obtain ⟨top, q1, q2, q3, q4⟩ := r.2.1.2.1; exact q3
      rw [hsz, hf.2.2 57 (by decide) (by decide) (by decide) (by decide) (by decide), r.2.2.1.2.1.1]; exact fin _
    · rw [r.2.1.2.2.2.1, hf.2.2 65 (by decide) (by decide) (by decide) (by decide) (by decide), r.2.2.1.2.2.2.1.1]; exact fin _
    · have hbl := bt_lt (P := fun s => (sl s).isSome) 3
      have m46 : T.1 46 = S2.1 46 := hf.2.1 46 (by decide) (by decide) (by decide) (by decide) (by decide) (by decide) (by decide) (by decide)
      have q0 := r.2.2.1.2.2.1.1 0 (by decide)
      have q1 := r.2.2.1.2.2.1.1 1 (by decide)
      have q2 := r.2.2.1.2.2.1.1 2 (by decide)
      have hcnt : cn (inS (bt (fun s => (sl s).isSome) 3)) 3 = (if (sl 0).isSome = true then 1 else 0) + (if (sl 1).isSome = true then 1 else 0) + (if (sl 2).isSome = true then 1 else 0) := by
        have e0 : inS (bt (fun s => (sl s).isSome) 3) 0 = (sl 0).isSome := inS_bt (by decide)
        have e1 : inS (bt (fun s => (sl s).isSome) 3) 1 = (sl 1).isSome := inS_bt (by decide)
        have e2 : inS (bt (fun s => (sl s).isSome) 3) 2 = (sl 2).isSome := inS_bt (by decide)
        show 0 + (if inS _ 0 = true then 1 else 0) + (if inS _ 1 = true then 1 else 0) + (if inS _ 2 = true then 1 else 0) = _
        rw [e0, e1, e2, Nat.zero_add]
      rw [r.2.1.2.2.1.1, bc8 _ hbl, Option.bind_some, hcnt, ck_c (show qv_in 0 3 = true by decide)]
      simp only [qj_e]
      simp only [ck_c (show qv_in 1 3 = true by decide), ck_c (show qv_in 2 3 = true by decide), tc0, tc1, tc2, m46, q0, q1, q2]
      cases (sl 0).isSome <;> cases (sl 1).isSome <;> cases (sl 2).isSome <;> exact fin _
    · refine fin2 (nI (bt (fun k => (agE E k (E.2.2.2 0)).isSome) (E.1 9 0))) ?_ ?_
      · have key : okk (fX11_onBits S1) (fun z => z.2 = nI (bt (fun k => (agE E k (E.2.2.2 0)).isSome) (E.1 9 0)) ∧ HC E z.1 ∧ frC S1 z.1) := by
          unfold fX11_onBits
          have hN5 := qN
          generalize qv_N = N at hN5 ⊢
          simp only [qj_e, qb_e]
          refine ok_lp3 (fun m U x1 x2 => ∃ k, m = E.1 9 0 - k ∧ k ≤ E.1 9 0 ∧ x2 = nI k ∧ x1 = nI (bt (fun k => (agE E k (E.2.2.2 0)).isSome) k) ∧ HC E U ∧ frC S1 U) ?_ N (E.1 9 0) S1 0 0 ⟨0, rfl, by omega, rfl, rfl, h1.2.1, frC_rf⟩ (by omega)
          rintro self m U x1 x2 ⟨k, rfl, hk, rfl, rfl, hU, hfU⟩ ih
          rw [hU.1.1]
          by_cases e : k = E.1 9 0
          · exact ok_pos (by rw [e]; exact Int32.le_refl _) (ok_s ⟨by rw [e], hU, hfU⟩)
          · refine ok_neg (nI_ge (by omega) (by omega)) ?_
            refine ok_cm (ageNowC hU hv (k := k) (by omega)) ?_
            rintro S5 v ⟨hvv, hC5, hf5⟩
            have hvv : v = _ := hvv
            have hC5 : HC E S5 := hC5
            have hf5 : frC U S5 := hf5
            subst hvv
            have hen := enc_neg (d := -2) (o := agE E k (E.2.2.2 0)) (by decide) (fun a ha => by have := agE_lt hv (show k < E.1 9 0 by omega) ha; omega)
            rw [nI_1, or_bit (by omega) (bt_lt _)]
            refine ok_if (fun g => ?_) (fun g => ?_)
            · exact ih (E.1 9 0 - (k + 1)) _ _ _ (by omega) ⟨k + 1, rfl, by omega, rfl, by rw [bt, if_neg (by rw [hen.mp g]; decide)]; rfl, hC5, frC_tr hfU hf5⟩
            · have : (agE E k (E.2.2.2 0)).isSome = true := by
                cases hb : (agE E k (E.2.2.2 0)).isSome with
                | true => rfl
                | false => exact absurd (hen.mpr hb) g
              exact ih (E.1 9 0 - (k + 1)) _ _ _ (by omega) ⟨k + 1, rfl, by omega, rfl, by rw [bt, if_pos this], hC5, frC_tr hfU hf5⟩
        refine ok_cm key ?_
        rintro S5 v ⟨hvv, hC5, hf5⟩
        exact ok_s ⟨hvv, qC_fr h1 hC5 hf5, frE_C hf5⟩
      · have hN5 := qN
        generalize qv_N = N at hN5 ⊢
        simp only [qb_e]
        refine ok_lp2 (fun m x1 x2 => ∃ k, m = E.1 9 0 - k ∧ k ≤ E.1 9 0 ∧ x2 = nI k ∧ x1 = nI (bt (fun k => (agE E k (E.2.2.2 0)).isSome) k)) ?_ N (E.1 9 0) 0 0 ⟨0, rfl, by omega, rfl, rfl⟩ (by omega)
        rintro self m x1 x2 ⟨k, rfl, hk, rfl, rfl⟩ ih
        rw [hck, hcl, a2]
        by_cases e : k = E.1 9 0
        · exact ok_pos (by rw [e]; exact Int32.le_refl _) (ok_s ⟨by rw [e], hf⟩)
        · refine ok_neg (nI_ge (by omega) (by omega)) ?_
          rw [isOnM hT hv (by omega), Option.bind_some, nI_1]
          cases hb : (agE E k (E.2.2.2 0)).isSome with
          | true =>
            show okk (self (nI _ ||| (1 : Int32) <<< (nI k &&& 31)) (nI (k + 1))) _
            rw [or_bit (by omega) (bt_lt _)]
            exact ih (E.1 9 0 - (k + 1)) _ _ (by omega) ⟨k + 1, rfl, by omega, rfl, by rw [bt, if_pos hb]⟩
          | false =>
            have e0 : ((0 : Int32) <<< (nI k &&& 31)) = nI 0 := by
              have := pk_shlN (n := 0) (nI k &&& 31) k (shk k (by omega)) (by rw [Nat.zero_mul]; decide)
              rw [Nat.zero_mul] at this
              exact this
            show okk (self (nI _ ||| (0 : Int32) <<< (nI k &&& 31)) (nI (k + 1))) _
            rw [e0, nI_or, Nat.or_zero]
            exact ih (E.1 9 0 - (k + 1)) _ _ (by omega) ⟨k + 1, rfl, by omega, rfl, by rw [bt, if_neg (by rw [hb]; decide)]; rfl⟩
