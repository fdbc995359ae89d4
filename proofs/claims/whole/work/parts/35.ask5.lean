/-! bribe, breakOff, join, odds -/
theorem payE_v {E : sE} (hw : wE E) (j : Nat) : vE (payE E j) := by
  refine ⟨hw.1.1, hw.1.2.1, fun k hk => ?_⟩
  have h0 := hw.2.1 0 (by decide)
  have hk2 := hw.2.1 k hk
  show (if k = 4 + j then max (E.2.2.2 (4 + j)) (E.2.2.2 0 + 300) else E.2.2.2 k) ≤ 1000000
  by_cases e : k = 4 + j
  · rw [if_pos e, ← e]; omega
  · rw [if_neg e]; omega
theorem call_bribe {E : sE} {lv : Nat} {S1 S2 : qv_St} (hw : wE E) (h1 : qC E S1) (h2 : qM lv E S2) (a b : Int32) : ask2 E S1 S2 (fX11_bribe S1 a b) (fX12_bribe S2 a b) := by
  unfold fX11_bribe fX12_bribe
  have hN5 := qN
  generalize qv_N = N at hN5 ⊢
  simp only [qj_e, qb_e]
  rcases shI (x := a) h1 h2 with ⟨e1, e2⟩ | ⟨s, hs, rfl, e1, e2⟩
  · rw [e1, e2, b0, b0, if_pos rfl, if_pos rfl]; exact ask2_no h1
  rw [e1, e2, b1, b1, if_neg n10, if_neg n10]
  rcases rgI b 0 1 0 1 rfl rfl (by decide) (by decide) with ⟨e1, e2⟩ | ⟨w, _, hw1, rfl, e1, e2⟩
  · rw [e1, e2, b0, b0, if_pos rfl, if_pos rfl]; exact ask2_no h1
  rw [e1, e2, b1, b1, if_neg n10, if_neg n10, plC h1.2.1 h1.1, plM h2.2.1 h2.1]
  by_cases hnp : E.1 9 1 = 0
  · rw [if_pos hnp, if_pos hnp]; exact ask2_no h1
  rw [if_neg hnp, if_neg hnp]
  have hv := h1.1
  have h8 := hv.1.1
  have h4 := hv.1.2.1
  have hp : E.2.2.2 1 < E.1 9 1 := by rcases hw.2.2.1 with z | z; exact absurd z hnp; exact z
  generalize hP : E.2.2.2 1 = p at hp
  generalize hu : fs (fun n => goE E p s n) 0 301 = u
  have hul : u ≤ 301 := by rw [← hu]; exact (fs_spec (P := fun n => goE E p s n) 301 0).2.1
  generalize hg : (fun j => fs (fun n => goE (payE E j) p s n) 0 301) = g
  have hge : ∀ j, fs (fun n => goE (payE E j) p s n) 0 301 = g j := fun j => by rw [← hg]
  have hgl : ∀ j, g j ≤ 301 := fun j => by
    rw [← hge]; exact (fs_spec (P := fun n => goE (payE E j) p s n) 301 0).2.1
  refine ask2_mk (match bs u g (E.1 9 0) with | none => -2 | some q => if nI w = 0 then nI q.1 else nI u - nI q.2) ?_ ?_
  · rw [h1.2.1.2.1.2.1, hP]
    refine ok_bd (faceQ h1 hp) ?_
    rintro T ⟨hT, hf⟩
    refine ok_cm (goodC hT hs (a := 0) (b := 301) (lat := 300) (by decide) (by decide) (by decide)) ?_
    rintro S4 r ⟨hr, hS4, hf4⟩
    have hr : r = (if fs (fun n => goE E p s n) 0 301 < 301 then nI (fs (fun n => goE E p s n) 0 301) else -2) := hr
    have hS4 : SV E p S4 := hS4
    have hf4 : frD T S4 := hf4
    rw [hu] at hr
    have key : ∀ x, x = nI u → okk (qv_lp4 N (fun self_1 (S_4 : qv_St) (x4_2 : Int32) (x5_2 : Int32) (x6_1 : Int32) => if S_4.1 9 0 ≤ x6_1 then (if 0 ≤ x4_2 then (if nI w = 0 then some (S_4, x4_2) else some (S_4, x - x5_2)) else some (S_4, -2)) else qv_cm (fX7_firstGoodWithout S_4 x6_1 (nI s) (x5_2 - 1)) fun S_5 r_4 => if r_4 < 0 then self_1 S_5 x4_2 x5_2 (x6_1 + 1) else self_1 S_5 x6_1 r_4 (x6_1 + 1)) S4 (-2) x 0) (fun z => z.2 = (match bs u g (E.1 9 0) with | none => -2 | some q => if nI w = 0 then nI q.1 else nI u - nI q.2) ∧ qC E z.1 ∧ frE S1 z.1) := by
      rintro x rfl
      refine ok_lp4 (fun m U x4 x5 x6 => ∃ i, m = E.1 9 0 - i ∧ i ≤ E.1 9 0 ∧ x6 = nI i ∧ x4 = bx (bs u g i) ∧ x5 = nI (bw u (bs u g i)) ∧ SV E p U ∧ frD T U) ?_ N (E.1 9 0) S4 (-2) (nI u) 0 ⟨0, rfl, by omega, rfl, rfl, rfl, hS4, hf4⟩ (by omega)
      rintro self m U x4 x5 x6 ⟨i, rfl, hi, rfl, rfl, rfl, hU, hfU⟩ ih
      obtain ⟨k1, k2⟩ := bs_b (u := u) (g := g) i
      have hfr := frE_tr hf (frE_D hfU)
      rw [hU.2.1.1.1]
      by_cases e : i = E.1 9 0
      · refine ok_pos (by rw [e]; exact Int32.le_refl _) ?_
        subst e
        cases hb : bs u g (E.1 9 0) with
        | none => exact ok_neg (by decide) (ok_s ⟨rfl, qC_SV hU, hfr⟩)
        | some q =>
          have := k2 q hb
          refine ok_pos (nI_pos' (n := q.1) (by omega)) (ok_if (fun g => ok_s ⟨?_, qC_SV hU, hfr⟩) (fun g => ok_s ⟨?_, qC_SV hU, hfr⟩))
          · show nI q.1 = if nI w = 0 then nI q.1 else nI u - nI q.2
            rw [if_pos g]
          · show nI u - nI q.2 = if nI w = 0 then nI q.1 else nI u - nI q.2
            rw [if_neg g]
      · have hlt1 : E.1 9 0 - (i + 1) < E.1 9 0 - i := by omega
        have hle1 : i + 1 ≤ E.1 9 0 := by omega
        refine ok_neg (nI_ge (by omega) (by omega)) (ok_cm (goodWC hU hs (j := i) (by omega) rfl (by omega)) ?_)
        rintro S5 r ⟨hr, hS5, hf5⟩
        have hr : r = _ := hr
        have hS5 : SV E p S5 := hS5
        have hf5 : frD U S5 := hf5
        obtain ⟨c1, c2⟩ := fs_cut (P := fun n => goE (payE E i) p s n) (a := 0) (b := bw u (bs u g i)) (c := 301) (by omega)
        simp only [Nat.sub_zero] at c1 c2
        rw [hge] at c1 c2
        rw [nI_1]
        by_cases hlt : fs (fun n => goE (payE E i) p s n) 0 (bw u (bs u g i)) < bw u (bs u g i)
        · rw [if_pos hlt, c2 hlt] at hr
          subst hr
          have hgi := hgl i
          refine ok_neg (nI_pos (by omega)) (ih _ _ _ _ _ hlt1 ⟨i + 1, rfl, hle1, rfl, ?_, ?_, hS5, frD_tr hfU hf5⟩)
          · rw [bs, if_pos (c1.mp hlt)]; rfl
          · rw [bs, if_pos (c1.mp hlt)]; rfl
        · rw [if_neg hlt] at hr
          subst hr
          refine ok_pos (by decide) (ih _ _ _ _ _ hlt1 ⟨i + 1, rfl, hle1, rfl, ?_, ?_, hS5, frD_tr hfU hf5⟩)
          · rw [bs, if_neg (fun z => hlt (c1.mpr z))]
          · rw [bs, if_neg (fun z => hlt (c1.mpr z))]
    by_cases hlt : u < 301
    · rw [if_pos hlt] at hr
      subst hr
      exact ok_pos (nI_pos' (by omega)) (key _ rfl)
    · rw [if_neg hlt] at hr
      subst hr
      exact ok_neg (by decide) (key _ (by rw [show u = 301 by omega]; rfl))
  · refine ok_bd (copiesQ h2) ?_
    rintro T ⟨hT, hf⟩
    refine ok_ck 1 rfl (by decide) (by decide) ?_
    rw [tc1, hT.2.1 1 (by decide), hP]
    refine ok_bd (fillsM hT hv (p := p) hp (m := 310) (by decide)) ?_
    rintro V ⟨hV, hfV⟩
    have hHV := HM_frL hT hfV
    refine ok_cm (soonM hHV hv hs (a := 0) (by decide) hV) ?_
    rintro S4 r ⟨hr, hf4⟩
    have hr : r = (if fs (fun n => goE E p s n) 0 301 < 301 then nI (fs (fun n => goE E p s n) 0 301) else -1) := hr
    have hf4 : frB V S4 := hf4
    have hfr4 := frQ_tr hf (frQ_L (frL_tr hfV (frL_B hf4)))
    rw [hu] at hr
    have main : ∀ x, x = nI u → ∀ F : (qv_St → Int32 → Int32 → Int32 → Option (qv_St × Int32)) → qv_St → Int32 → Int32 → Int32 → Option (qv_St × Int32), (F = fun self_1 (S_5 : qv_St) (x4_2 : Int32) (x5_2 : Int32) (x6_1 : Int32) => qv_ck (S_5.1 0 18) 2 (if S_5.1 9 (Int32.toNatClampNeg (S_5.1 0 18)) ≤ x6_1 then (if x4_2 < 0 then some (S_5, x4_2) else if nI w = 0 then some (S_5, x4_2) else some (S_5, x - x5_2)) else (fX12_copies S_5).bind fun S_6 => qv_ck (4 + x6_1) 32 (qv_ck 0 32 (if S_6.1 37 0 + 300 ≤ S_6.1 37 (Int32.toNatClampNeg (4 + x6_1)) then qv_ck 1 32 ((fX12_fillsLoud S_6 (S_6.1 37 1) 310).bind fun S_8 => qv_cm (fX12_soonest S_8 (nI s) 0) fun S_9 r_4 => if r_4 < 0 then self_1 S_9 x4_2 x5_2 (x6_1 + 1) else if r_4 < x5_2 then self_1 S_9 x6_1 r_4 (x6_1 + 1) else self_1 S_9 x4_2 x5_2 (x6_1 + 1)) else qv_ck 0 32 (qv_ck (4 + x6_1) 32 (qv_ck 1 32 ((fX12_fillsLoud (qv_si S_6 37 (Int32.toNatClampNeg (4 + x6_1)) (S_6.1 37 0 + 300)) ((qv_si S_6 37 (Int32.toNatClampNeg (4 + x6_1)) (S_6.1 37 0 + 300)).1 37 1) 310).bind fun S_8 => qv_cm (fX12_soonest S_8 (nI s) 0) fun S_9 r_4 => if r_4 < 0 then self_1 S_9 x4_2 x5_2 (x6_1 + 1) else if r_4 < x5_2 then self_1 S_9 x6_1 r_4 (x6_1 + 1) else self_1 S_9 x4_2 x5_2 (x6_1 + 1)))))))) → okk (qv_lp4 N F S4 (-2) x 0) (fun z => z.2 = (match bs u g (E.1 9 0) with | none => -2 | some q => if nI w = 0 then nI q.1 else nI u - nI q.2) ∧ frQ S2 z.1) := by
      rintro x rfl F rfl
      refine ok_lp4 (fun m U x4 x5 x6 => ∃ i, m = E.1 9 0 - i ∧ i ≤ E.1 9 0 ∧ x6 = nI i ∧ x4 = bx (bs u g i) ∧ x5 = nI (bw u (bs u g i)) ∧ frQ S2 U) ?_ N (E.1 9 0) S4 (-2) (nI u) 0 ⟨0, rfl, by omega, rfl, rfl, rfl, hfr4⟩ (by omega)
      rintro self m U x4 x5 x6 ⟨i, rfl, hi, rfl, rfl, rfl, hfU⟩ ih
      obtain ⟨k1, k2⟩ := bs_b (u := u) (g := g) i
      have hqU := qM_fr h2 hfU
      obtain ⟨a0, a1, a2, ax4⟩ := hqU.2.1
      refine ok_ck lv a1 (by omega) (by decide) ?_
      rw [a1, qi_cl (by omega), a2]
      by_cases e : i = E.1 9 0
      · refine ok_pos (by rw [e]; exact Int32.le_refl _) ?_
        subst e
        cases hb : bs u g (E.1 9 0) with
        | none => exact ok_pos (by decide) (ok_s ⟨rfl, hfU⟩)
        | some q =>
          have := k2 q hb
          refine ok_neg (nI_pos (n := q.1) (by omega)) (ok_if (fun g => ok_s ⟨?_, hfU⟩) (fun g => ok_s ⟨?_, hfU⟩))
          · show nI q.1 = if nI w = 0 then nI q.1 else nI u - nI q.2
            rw [if_pos g]
          · show nI u - nI q.2 = if nI w = 0 then nI q.1 else nI u - nI q.2
            rw [if_neg g]
      · have hlt1 : E.1 9 0 - (i + 1) < E.1 9 0 - i := by omega
        have hle1 : i + 1 ≤ E.1 9 0 := by omega
        refine ok_neg (nI_ge (by omega) (by omega)) (ok_bd (copiesQ hqU) ?_)
        rintro Y ⟨hY, hfY⟩
        have e4 : 4 + nI i = nI (4 + i) := nI_add 4 i
        rw [e4, qi_cl (by omega), hY.2.1 0 (by decide), hY.2.1 (4 + i) (by omega), nI_1]
        have e300 : nI (E.2.2.2 0) + 300 = nI (E.2.2.2 0 + 300) := nI_add _ 300
        rw [e300]
        have hb0 := hw.2.1 0 (by decide)
        have hb4 := hw.2.1 (4 + i) (by omega)
        refine ok_ck (4 + i) rfl (by omega) (by decide) (ok_ck 0 rfl (by decide) (by decide) ?_)
        have key : ∀ Z : qv_St, HM lv (payE E i) Z → frQ Y Z → okk (qv_ck 1 32 ((fX12_fillsLoud Z (Z.1 37 1) 310).bind fun S_8 => qv_cm (fX12_soonest S_8 (nI s) 0) fun S_9 r_4 => if r_4 < 0 then self S_9 (bx (bs u g i)) (nI (bw u (bs u g i))) (nI (i + 1)) else if r_4 < nI (bw u (bs u g i)) then self S_9 (nI i) r_4 (nI (i + 1)) else self S_9 (bx (bs u g i)) (nI (bw u (bs u g i))) (nI (i + 1)))) (fun z => z.2 = (match bs u g (E.1 9 0) with | none => -2 | some q => if nI w = 0 then nI q.1 else nI u - nI q.2) ∧ frQ S2 z.1) := by
          intro Z hZ hfZ
          have hvp := payE_v hw i
          have hp1 : (payE E i).2.2.2 1 = p := by rw [← hP]; exact if_neg (by omega)
          refine ok_ck 1 rfl (by decide) (by decide) ?_
          rw [hZ.2.1 1 (by decide), hp1]
          refine ok_bd (fillsM hZ hvp (p := p) hp (m := 310) (by decide)) ?_
          rintro V ⟨hV, hfV⟩
          have hHV := HM_frL hZ hfV
          refine ok_cm (soonM hHV hvp hs (a := 0) (by decide) hV) ?_
          rintro S9 r ⟨hr, hf9⟩
          have hr : r = (if fs (fun n => goE (payE E i) p s n) 0 301 < 301 then nI (fs (fun n => goE (payE E i) p s n) 0 301) else -1) := hr
          have hf9 : frB V S9 := hf9
          have hfr9 := frQ_tr hfU (frQ_tr hfY (frQ_tr hfZ (frQ_L (frL_tr hfV (frL_B hf9)))))
          rw [hge] at hr
          have hgi := hgl i
          have skip : ¬ g i < bw u (bs u g i) → okk (self S9 (bx (bs u g i)) (nI (bw u (bs u g i))) (nI (i + 1))) (fun z => z.2 = (match bs u g (E.1 9 0) with | none => -2 | some q => if nI w = 0 then nI q.1 else nI u - nI q.2) ∧ frQ S2 z.1) := by
            intro hn
            refine ih _ _ _ _ _ hlt1 ⟨i + 1, rfl, hle1, rfl, ?_, ?_, hfr9⟩
            · rw [bs, if_neg hn]
            · rw [bs, if_neg hn]
          by_cases hlt : g i < 301
          · rw [if_pos hlt] at hr
            subst hr
            refine ok_neg (nI_pos (by omega)) (ok_if (fun z => ?_) (fun z => skip (fun y => z (nI_lt y (by omega)))))
            have z := (nI_ltI (by omega) (by omega)).mp z
            refine ih _ _ _ _ _ hlt1 ⟨i + 1, rfl, hle1, rfl, ?_, ?_, hfr9⟩
            · rw [bs, if_pos z]; rfl
            · rw [bs, if_pos z]; rfl
          · rw [if_neg hlt] at hr
            subst hr
            exact ok_pos (by decide) (skip (by omega))
        refine ok_if (fun z => ?_) (fun z => ?_)
        · have z := (nI_leI (by omega) (by omega)).mp z
          refine key Y ⟨hY.1, fun k hk => ?_, hY.2.2⟩ frQ_rf
          rw [hY.2.1 k hk]
          congr 1
          show E.2.2.2 k = if k = 4 + i then max (E.2.2.2 (4 + i)) (E.2.2.2 0 + 300) else E.2.2.2 k
          by_cases ek : k = 4 + i
          · rw [if_pos ek, ek]; omega
          · rw [if_neg ek]
        · have z : ¬ E.2.2.2 0 + 300 ≤ E.2.2.2 (4 + i) := fun y => z (nI_le y (by omega))
          refine ok_ck 0 rfl (by decide) (by decide) (ok_ck (4 + i) rfl (by omega) (by decide) (key _ ⟨?_, fun k hk => ?_, ?_⟩ ?_))
          · exact mS_G (fun q q1 q2 => by rw [qs_si, qs_ne (by omega)]) (by rw [qs_si, qs_ne (by decide)]) hY.1
          · rw [qs_si, qs_eq]
            show upd (Y.1 37) (4 + i) (nI (E.2.2.2 0 + 300)) k = nI (if k = 4 + i then max (E.2.2.2 (4 + i)) (E.2.2.2 0 + 300) else E.2.2.2 k)
            by_cases ek : k = 4 + i
            · rw [ek, upd_eq, if_pos rfl]; congr 1; omega
            · rw [upd_ne ek, if_neg ek]; exact hY.2.1 k hk
          · rw [qs_si, qs_ne (by decide)]; exact hY.2.2
          · refine ⟨rfl, fun q _ _ _ d _ _ _ _ => by rw [qs_si, qs_ne d], fun j _ _ _ _ _ => by rw [qs_si, qs_ne (by decide)]⟩
    simp only [tc0]
    by_cases hlt : u < 301
    · rw [if_pos hlt] at hr
      subst hr
      exact ok_pos (nI_pos' (by omega)) (main _ rfl _ rfl)
    · rw [if_neg hlt] at hr
      subst hr
      exact ok_neg (by decide) (main _ (by rw [show u = 301 by omega]; rfl) _ rfl)
theorem shk : ∀ k, k < 16 → ((nI k &&& 31).toBitVec.smod 32).toNat = k := by decide
theorem bit_get {b k : Nat} (hb : b < 2 ^ 31) (hk : k < 16) : (nI b >>> (nI k &&& 31)) &&& 1 = nI (b / 2 ^ k % 2) := by
  rw [pk_shrN hb _ k (shk k hk), pk_andN (Nat.lt_of_le_of_lt (Nat.div_le_self _ _) (by omega)) 1 (by decide)]
theorem call_breakOff {E : sE} {lv : Nat} {S1 S2 : qv_St} (hw : wE E) (h1 : qC E S1) (h2 : qM lv E S2) (a b : Int32) : ask2 E S1 S2 (fX11_breakOff S1 a b) (fX12_breakOff S2 a b) := by
  unfold fX11_breakOff fX12_breakOff
  have hN5 := qN
  generalize qv_N = N at hN5 ⊢
  rcases shI (x := a) h1 h2 with ⟨e1, e2⟩ | ⟨s, hs, rfl, e1, e2⟩
  · rw [e1, e2, b0, b0, if_pos rfl, if_pos rfl]; exact ask2_no h1
  rw [e1, e2, b1, b1, if_neg n10, if_neg n10]
  rcases rgI b 0 300 0 300 rfl rfl (by decide) (by decide) with ⟨e1, e2⟩ | ⟨n, _, hn, rfl, e1, e2⟩
  · rw [e1, e2, b0, b0, if_pos rfl, if_pos rfl]; exact ask2_no h1
  rw [e1, e2, b1, b1, if_neg n10, if_neg n10, plC h1.2.1 h1.1, plM h2.2.1 h2.1]
  by_cases hnp : E.1 9 1 = 0
  · rw [if_pos hnp, if_pos hnp]; exact ask2_no h1
  rw [if_neg hnp, if_neg hnp]
  have hv := h1.1
  have h4 := hv.1.2.1
  have hL := hv.1.2.2.2.2.2.2.2.2 s hs
  have hp : E.2.2.2 1 < E.1 9 1 := by rcases hw.2.2.1 with z | z; exact absurd z hnp; exact z
  generalize hP : E.2.2.2 1 = p at hp
  obtain ⟨f1, f2, f3, f4⟩ := fs_spec (P := fun k => !clE E p s n k) (E.1 17 s) 0
  refine ask2_mk (if fuE E p s n = E.1 17 s then -2 else nI (fuE E p s n)) ?_ ?_
  · rw [h1.2.1.2.1.2.1, hP]
    refine ok_bd (faceQ h1 hp) ?_
    rintro T ⟨hT, hf⟩
    refine ok_cm (unclearC hT hs (n := n) (by omega)) ?_
    rintro S4 r ⟨hr, hS4, hf4⟩
    have hr : r = fuR E p s n := hr
    subst hr
    have hfr := frE_tr hf (frE_D hf4)
    unfold fuR
    by_cases z : fuE E p s n = E.1 17 s
    · rw [if_pos z, if_pos z]
      exact ok_neg (by decide) (ok_s ⟨rfl, qC_SV hS4, hfr⟩)
    · rw [if_neg z, if_neg z]
      exact ok_pos (nI_pos' (by unfold fuE; omega)) (ok_s ⟨rfl, qC_SV hS4, hfr⟩)
  · refine ok_bd (copiesQ h2) ?_
    rintro T ⟨hT, hf⟩
    refine ok_ck 1 rfl (by decide) (by decide) ?_
    rw [tc1, hT.2.1 1 (by decide), hP, longM hT.1 hv hs, Option.bind_some, nI_add]
    refine ok_bd (fillsM hT hv (p := p) hp (m := n + E.1 17 s) (by omega)) ?_
    rintro V ⟨hV, hfV⟩
    have hHV := HM_frL hT hfV
    refine ok_cm (clearM hHV hv hs (n := n) (p := p) (by omega) (fun k hk => hV (n + k) (by omega))) ?_
    rintro S4 r ⟨hr, hf4⟩
    have hr : r = nI (bt (clE E p s n) (E.1 17 s)) := hr
    have hf4 : frB V S4 := hf4
    subst hr
    have hH4 := HM_fr hHV hf4
    have hfr := frQ_tr hf (frQ_L (frL_tr hfV (frL_B hf4)))
    have hlt := bt_lt (P := clE E p s n) (E.1 17 s)
    have h9 : 2 ^ (E.1 17 s) ≤ 2 ^ 9 := Nat.pow_le_pow_right (by decide) hL.2.1
    rw [longM hH4.1 hv hs]
    refine ok_lp1 (fun m x => ∃ i, m = E.1 17 s - i ∧ i ≤ E.1 17 s ∧ x = nI i ∧ ∀ k, k < i → clE E p s n k = true) ?_ N (E.1 17 s) 0 ⟨0, rfl, by omega, rfl, fun k hk => by omega⟩ (by omega)
    rintro self m x ⟨i, rfl, hi, rfl, hk⟩ ih
    rw [Option.bind_some]
    by_cases e : i = E.1 17 s
    · refine ok_pos (by rw [e]; exact Int32.le_refl _) (ok_s ⟨?_, hfr⟩)
      rw [if_pos]
      exact fs_uniq (by omega) (by omega) (fun k _ hk2 => by show (!clE E p s n k) = false; rw [hk k (by omega)]; rfl) (fun h => by omega)
    · refine ok_neg (nI_ge (by omega) (by omega)) ?_
      rw [bit_get (by omega) (by omega), nI_1]
      have htst := bt_test (P := clE E p s n) (E.1 17 s) i (by omega)
      cases hb : clE E p s n i with
      | true =>
        rw [htst.mpr hb]
        refine ok_neg (by decide) (ih (E.1 17 s - (i + 1)) _ (by omega) ⟨i + 1, rfl, by omega, rfl, fun k hk2 => ?_⟩)
        by_cases e2 : k = i
        · subst e2; exact hb
        · exact hk k (by omega)
      | false =>
        have h0 : bt (clE E p s n) (E.1 17 s) / 2 ^ i % 2 = 0 := by
          rcases Nat.mod_two_eq_zero_or_one (bt (clE E p s n) (E.1 17 s) / 2 ^ i) with z | z
          · exact z
          · rw [htst.mp z] at hb; cases hb
        rw [h0]
        refine ok_pos rfl (ok_s ⟨?_, hfr⟩)
        have e2 : fuE E p s n = i := fs_uniq (by omega) (by omega) (fun k _ hk2 => by show (!clE E p s n k) = false; rw [hk k (by omega)]; rfl) (fun _ => by show (!clE E p s n i) = true; rw [hb]; rfl)
        show nI i = _
        rw [e2, if_neg e]
/-! join -/
def jn (E : sE) (p s : Nat) : Nat → Nat
  | 0 => E.2.2.2 (12 + s)
  | t + 1 => jn E p s t ||| bt (clE E p s (t * E.1 17 s)) (E.1 17 s)
theorem jn_lt {E : sE} {p s : Nat} (hw : wE E) (hs : s < E.1 9 2) : ∀ t, jn E p s t < 2 ^ 9
  | 0 => hw.2.2.2.2 s (by have := hw.1.1.2.2.1; omega)
  | t + 1 => by
    have hL := hw.1.1.2.2.2.2.2.2.2.2 s hs
    exact Nat.or_lt_two_pow (jn_lt hw hs t) (Nat.lt_of_lt_of_le (bt_lt _) (Nat.pow_le_pow_right (by decide) hL.2.1))
theorem call_join {E : sE} {lv : Nat} {S1 S2 : qv_St} (hw : wE E) (h1 : qC E S1) (h2 : qM lv E S2) (a : Int32) : ask2 E S1 S2 (fX11_join S1 a) (fX12_join S2 a) := by
  unfold fX11_join fX12_join
  have hN5 := qN
  generalize qv_N = N at hN5 ⊢
  simp only [qj_e, qb_e]
  rcases shI (x := a) h1 h2 with ⟨e1, e2⟩ | ⟨s, hs, rfl, e1, e2⟩
  · rw [e1, e2, b0, b0, if_pos rfl, if_pos rfl]; exact ask2_no h1
  rw [e1, e2, b1, b1, if_neg n10, if_neg n10, plC h1.2.1 h1.1, plM h2.2.1 h2.1]
  by_cases hnp : E.1 9 1 = 0
  · rw [if_pos hnp, if_pos hnp]; exact ask2_no h1
  rw [if_neg hnp, if_neg hnp]
  have hv := h1.1
  have h6 := hv.1.2.2.1
  have h4 := hv.1.2.1
  have hL := hv.1.2.2.2.2.2.2.2.2 s hs
  have h9 : 2 ^ (E.1 17 s) ≤ 2 ^ 9 := Nat.pow_le_pow_right (by decide) hL.2.1
  have hp : E.2.2.2 1 < E.1 9 1 := by rcases hw.2.2.1 with z | z; exact absurd z hnp; exact z
  generalize hP : E.2.2.2 1 = p at hp
  have hjl := jn_lt (p := p) hw hs
  generalize hall : 2 ^ (E.1 17 s) - 1 = all at *
  have hal : all < 2 ^ 9 := by omega
  generalize hf0 : fs (fun t => jn E p s t == all) 0 21 = f
  have hfi : f = fs (fun t => jn E p s t == all) 0 21 := hf0.symm
  refine ask2_mk (if f < 21 then nI f else -2) ?_ ?_
  · rw [h1.2.1.2.1.2.1, hP]
    refine ok_bd (faceQ h1 hp) ?_
    rintro T ⟨hT, hf⟩
    unfold fX5_allSeconds
    have e33 : T.1 33 s = nI (E.2.2.2 (12 + s)) := (hT.2.1.2.1.2.2.2.2.2 s (by omega)).1
    rw [qi_ck (by omega) (by decide), qi_cl (by omega), (hT.2.1.1.2.2.2.2.2.2.2.2.1 s hs).1, Option.bind_some, sh1m _ (by omega), hall, e33]
    refine ok_ck s rfl (by omega) (by decide) ?_
    refine ok_lp3 (fun m U x3 x4 => ∃ t, m = 20 - t ∧ t ≤ 20 ∧ x4 = nI t ∧ x3 = nI (jn E p s t) ∧ (∀ k, k < t → jn E p s k ≠ all) ∧ SV E p U ∧ frD T U) ?_ N 20 T (nI (E.2.2.2 (12 + s))) 0 ⟨0, rfl, by omega, rfl, rfl, fun k hk => by omega, hT, frD_rf⟩ (by omega)
    rintro self m U x3 x4 ⟨t, rfl, ht, rfl, rfl, hk, hU, hfU⟩ ih
    have hfr := frE_tr hf (frE_D hfU)
    have hjt := hjl t
    by_cases ej : jn E p s t = all
    · refine ok_pos (by rw [ej]) (ok_pos (by rw [ej]) (ok_s ⟨?_, qC_SV hU, hfr⟩))
      have : f = t := by
        rw [hfi]
        exact fs_uniq (by omega) (by omega) (fun k _ hk2 => by show (jn E p s k == all) = false; rw [beq_eq_false_iff_ne]; exact hk k hk2) (fun _ => by show (jn E p s t == all) = true; rw [beq_iff_eq]; exact ej)
      show nI t = _
      rw [this, if_pos (by omega)]
    · have ej2 : ¬ nI (jn E p s t) = nI all := fun z => ej ((nI_eq (by omega) (by omega)).mp z)
      refine ok_neg ej2 ?_
      by_cases et : t = 20
      · subst et
        refine ok_pos (by decide) (ok_neg ej2 (ok_s ⟨?_, qC_SV hU, hfr⟩))
        rw [if_neg]
        intro z
        obtain ⟨g1, g2, g3, g4⟩ := fs_spec (P := fun t => jn E p s t == all) 21 0
        rw [← hfi] at g4
        have := g4 (by omega)
        rw [beq_iff_eq] at this
        rcases (by omega : f < 20 ∨ f = 20) with y | y
        · exact hk f y this
        · rw [y] at this; exact ej this
      · refine ok_neg (show ¬ (20 : Int32) ≤ nI t from nI_ge (b := 20) (by omega) (by decide)) (ok_ck s rfl (by omega) (by decide) ?_)
        rw [(hU.2.1.1.2.2.2.2.2.2.2.2.1 s hs).1, pk_mul, nI_1]
        have hmul : t * E.1 17 s ≤ 19 * 9 := Nat.mul_le_mul (by omega) hL.2.1
        refine ok_cm (clearC hU hs (n := t * E.1 17 s) (by omega)) ?_
        rintro S4 r ⟨hr, hS4, hf4⟩
        have hr : r = _ := hr
        have hS4 : SV E p S4 := hS4
        have hf4 : frD U S4 := hf4
        subst hr
        rw [nI_or]
        refine ih (20 - (t + 1)) _ _ _ (by omega) ⟨t + 1, rfl, by omega, rfl, rfl, fun k hk2 => ?_, hS4, frD_tr hfU hf4⟩
        by_cases e3 : k = t
        · subst e3; exact ej
        · exact hk k (by omega)
  · refine ok_bd (copiesQ h2) ?_
    rintro T ⟨hT, hf⟩
    have e12 : 12 + nI s = nI (12 + s) := nI_add 12 s
    have e20 : 20 * nI (E.1 17 s) = nI (20 * E.1 17 s) := pk_mul 20 _
    rw [tc1, hT.2.1 1 (by decide), hP, longM hT.1 hv hs, Option.bind_some, e12, e20]
    refine ok_ck 1 rfl (by decide) (by decide) ?_
    refine ok_bd (fillsM hT hv (p := p) hp (m := 20 * E.1 17 s) (by omega)) ?_
    rintro V ⟨hV, hfV⟩
    have hHV := HM_frL hT hfV
    refine ok_ck (12 + s) rfl (by omega) (by decide) ?_
    rw [qi_cl (by omega), hHV.2.1 (12 + s) (by omega)]
    refine ok_lp3 (fun m U x3 x4 => ∃ t, m = 21 - t ∧ t ≤ 21 ∧ x4 = nI t ∧ (t ≤ 20 → x3 = nI (jn E p s t)) ∧ (∀ k, k < t → jn E p s k ≠ all) ∧ frB V U) ?_ N 21 V (nI (E.2.2.2 (12 + s))) 0 ⟨0, rfl, by omega, rfl, fun _ => rfl, fun k hk => by omega, frB_rf⟩ (by omega)
    rintro self m U x3 x4 ⟨t, rfl, ht, rfl, hx3, hk, hfU⟩ ih
    have hfr := frQ_tr hf (frQ_L (frL_tr hfV (frL_B hfU)))
    have hjt := hjl t
    by_cases et : t = 21
    · subst et
      refine ok_pos (by decide) (ok_s ⟨?_, hfr⟩)
      rw [if_neg]
      intro z
      obtain ⟨g1, g2, g3, g4⟩ := fs_spec (P := fun t => jn E p s t == all) 21 0
      rw [← hfi] at g4
      have := g4 (by omega)
      rw [beq_iff_eq] at this
      exact hk f (by omega) this
    · have hU := HM_fr hHV hfU
      rw [hx3 (by omega)]
      refine ok_neg (show ¬ (20 : Int32) < nI t from nI_nlt (b := t) (a := 20) (by omega) (by decide)) ?_
      rw [wholeM hU.1 hv hs (by omega), Option.bind_some, hall]
      by_cases ej : jn E p s t = all
      · rw [if_pos ej]
        refine ok_neg n10 (ok_s ⟨?_, hfr⟩)
        have : f = t := by
          rw [hfi]
          exact fs_uniq (by omega) (by omega) (fun k _ hk2 => by show (jn E p s k == all) = false; rw [beq_eq_false_iff_ne]; exact hk k hk2) (fun _ => by show (jn E p s t == all) = true; rw [beq_iff_eq]; exact ej)
        show nI t = _
        rw [this, if_pos (by omega)]
      · rw [if_neg ej]
        have hk' : ∀ k, k < t + 1 → jn E p s k ≠ all := by
          intro k hk2
          by_cases e3 : k = t
          · subst e3; exact ej
          · exact hk k (by omega)
        refine ok_pos rfl ?_
        rw [nI_1]
        by_cases et2 : t = 20
        · refine ok_pos (by rw [et2]; decide) (ih (21 - (t + 1)) _ _ _ (by omega) ⟨t + 1, rfl, by omega, rfl, fun h => by omega, hk', hfU⟩)
        · refine ok_neg (show ¬ (20 : Int32) ≤ nI t from nI_ge (b := 20) (by omega) (by decide)) ?_
          rw [pk_mul]
          have hmul : t * E.1 17 s ≤ 19 * 9 := Nat.mul_le_mul (by omega) hL.2.1
          have hmul2 : t * E.1 17 s + E.1 17 s ≤ 20 * E.1 17 s := by
            have : (t + 1) * E.1 17 s ≤ 20 * E.1 17 s := Nat.mul_le_mul_right _ (by omega)
            rw [Nat.add_mul, Nat.one_mul] at this
            exact this
          refine ok_cm (clearM hU hv hs (n := t * E.1 17 s) (p := p) (by omega) (fun k hk => by rw [hfU.2.1 38 (by decide) (by decide) (by decide)]; exact hV _ (by omega))) ?_
          rintro S4 r ⟨hr, hf4⟩
          have hr : r = _ := hr
          have hf4 : frB U S4 := hf4
          subst hr
          rw [nI_or]
          exact ih (21 - (t + 1)) _ _ _ (by omega) ⟨t + 1, rfl, by omega, rfl, fun _ => rfl, hk', frB_tr hfU hf4⟩
