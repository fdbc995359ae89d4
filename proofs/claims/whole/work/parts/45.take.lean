/-! take, hold, restore -/
def taR (R : Nat → Nat) (s b w : Nat) : Nat → Nat := fun j => if j = 12 + s then R j ||| b else if j = 18 + s then R j + 1 else if j = 24 + s then R j + w else R j
theorem addTakeC {S : qv_St} {R : Nat → Nat} {s b al : Nat} (h : cR R S.1 31) (hs : s < 6) (hb : b < 2 ^ 31) (hal : al < 2 ^ 31) : okk (fX6_addTake S 31 (nI s) (nI b) (nI al)) (fun z => cR (taR R s b (if b = al then 1 else 0)) z.1 31 ∧ z.2 = S.2 ∧ ∀ c, c ≠ 33 → c ≠ 34 → c ≠ 35 → z.1 c = S.1 c) := by
  obtain ⟨a0, a1, a2, a3, a4, a5⟩ := cR_31 h
  unfold fX6_addTake
  have ck : ∀ {ρ : Type} {o : Option ρ}, qv_ck (nI s) 6 o = o := fun {ρ} {o} => qi_ck hs (by decide)
  rw [ck, ck, qi_cl (by omega)]
  refine ok_b (fun x => x.2 = S.2 ∧ x.1 33 = upd (S.1 33) s (nI (R (12 + s) ||| b)) ∧ ∀ c, c ≠ 33 → x.1 c = S.1 c) ⟨rfl, by rw [qs_si, qs_eq]; show upd (S.1 33) s (S.1 33 s ||| nI b) = _; rw [(a5 s hs).1, nI_or], fun c hc => by rw [qs_si, qs_ne hc]⟩ ?_
  rintro X ⟨x1, x2, x3⟩
  rw [ck, ck]
  refine ok_b (fun x => x.2 = S.2 ∧ x.1 33 = upd (S.1 33) s (nI (R (12 + s) ||| b)) ∧ x.1 34 = upd (S.1 34) s (nI (R (18 + s) + 1)) ∧ ∀ c, c ≠ 33 → c ≠ 34 → x.1 c = S.1 c) ⟨x1, by rw [qs_si, qs_ne (by decide)]; exact x2, by rw [qs_si, qs_eq]; show upd (X.1 34) s (X.1 34 s + 1) = _; rw [x3 34 (by decide), (a5 s hs).2.1, nI_1], fun c hc h4 => by rw [qs_si, qs_ne h4]; exact x3 c hc⟩ ?_
  rintro Y ⟨y1, y2, y3, y4⟩
  have fin : ∀ (Z : qv_St) (w : Nat), Z.2 = S.2 → Z.1 33 = upd (S.1 33) s (nI (R (12 + s) ||| b)) → Z.1 34 = upd (S.1 34) s (nI (R (18 + s) + 1)) → (∀ t, t < 6 → Z.1 35 t = nI (R (24 + t) + if t = s then w else 0)) → (∀ c, c ≠ 33 → c ≠ 34 → c ≠ 35 → Z.1 c = S.1 c) → cR (taR R s b w) Z.1 31 := by
    intro Z w z1 z2 z3 z4 z5
    have lo : ∀ j, j < 12 → taR R s b w j = R j := fun j hj => by unfold taR; rw [if_neg (by omega), if_neg (by omega), if_neg (by omega)]
    have z31 := z5 31 (by decide) (by decide) (by decide)
    refine ⟨by rw [z31, lo 0 (by decide)]; exact a0, by rw [z31, lo 1 (by decide)]; exact a1, by rw [z31, lo 2 (by decide)]; exact a2, by rw [z31, lo 3 (by decide)]; exact a3, fun k hk => ?_, fun t ht => ⟨?_, ?_, ?_⟩⟩
    · show Z.1 32 k = _
      rw [z5 32 (by decide) (by decide) (by decide)]
      unfold taR
      rw [if_neg (by omega), if_neg (by omega), if_neg (by omega)]
      exact a4 k hk
    · show Z.1 33 t = nI (taR R s b w (12 + t))
      unfold taR
      rw [z2]
      by_cases e : t = s
      · rw [e, upd_eq, if_pos rfl]
      · rw [upd_ne e, if_neg (by omega), if_neg (by omega), if_neg (by omega)]; exact (a5 t ht).1
    · show Z.1 34 t = nI (taR R s b w (18 + t))
      unfold taR
      rw [z3]
      by_cases e : t = s
      · rw [e, upd_eq, if_neg (by omega), if_pos rfl]
      · rw [upd_ne e, if_neg (by omega), if_neg (by omega), if_neg (by omega)]; exact (a5 t ht).2.1
    · show Z.1 35 t = nI (taR R s b w (24 + t))
      unfold taR
      rw [z4 t ht]
      by_cases e : t = s
      · rw [e, if_pos rfl, if_neg (by omega), if_neg (by omega), if_pos rfl]
      · rw [if_neg e, if_neg (by omega), if_neg (by omega), if_neg (by omega)]; rfl
  refine ok_if (fun g => ?_) (fun g => ?_)
  · have g : b = al := (nI_eq hb hal).mp g
    rw [ck, ck, if_pos g]
    refine ok_b (fun x => cR (taR R s b 1) x.1 31 ∧ x.2 = S.2 ∧ ∀ c, c ≠ 33 → c ≠ 34 → c ≠ 35 → x.1 c = S.1 c) ?_ (fun x hx => ok_s hx)
    have g5 : ∀ c, c ≠ 33 → c ≠ 34 → c ≠ 35 → (qv_si Y (31 + 4) s (Y.1 (31 + 4) s + 1)).1 c = S.1 c := fun c c1 c2 c3 => by rw [qs_si, qs_ne c3]; exact y4 c c1 c2
    refine ⟨fin _ 1 y1 (by rw [qs_si, qs_ne (by decide)]; exact y2) (by rw [qs_si, qs_ne (by decide)]; exact y3) (fun t ht => ?_) g5, y1, g5⟩
    rw [qs_si]
    show (qs Y 35 (upd (Y.1 35) s (Y.1 35 s + 1))).1 35 t = _
    rw [qs_eq, y4 35 (by decide) (by decide)]
    by_cases e : t = s
    · rw [e, upd_eq, if_pos rfl, (a5 s hs).2.2, nI_1]
    · rw [upd_ne e, if_neg e]; exact (a5 t ht).2.2
  · have g : ¬ b = al := fun z => g (by rw [z])
    rw [if_neg g]
    refine ok_s ⟨fin Y 0 y1 y2 y3 (fun t ht => ?_) (fun c c1 c2 c3 => y4 c c1 c2), y1, fun c c1 c2 c3 => y4 c c1 c2⟩
    rw [y4 35 (by decide) (by decide), (a5 t ht).2.2]
    congr 1
    split <;> omega
theorem rel_take {i : Nat} {S1 S2 : qv_St} (a : Int32) (hi : i + 6 ≤ 3072) (hr : Rel i S1 S2) : ∃ (S1' : qv_St) (S2' : qv_St) (r : Int32), fX11_take S1 a = some (S1', r) ∧ fX12_take S2 a = some (S2', r) ∧ Rel (i + 6) S1' S2' := by
  obtain ⟨E, lv, n, h, sl, tn, tp, ts, tz, r⟩ := hr
  have same : Rel (i + 6) S1 S2 := ⟨E, lv, n, h, sl, tn, tp, ts, tz, RB_mono (by omega) r⟩
  have h1 := r.2.1.1
  have h2 := r.2.2.1.1
  have hv := h1.1
  have hw := RB_w (by omega) r
  unfold fX11_take fX12_take
  simp only [qj_e, qb_e]
  rcases shI (x := a) h1 h2 with ⟨e1, e2⟩ | ⟨s, hs, rfl, e1, e2⟩
  · rw [e1, e2, b0, b0, if_pos rfl, if_pos rfl]; exact ⟨S1, S2, -1, rfl, rfl, same⟩
  rw [e1, e2, b1, b1, if_neg n10, if_neg n10, plC h1.2.1 hv, plM h2.2.1 hv]
  by_cases hnp : E.1 9 1 = 0
  · rw [if_pos hnp, if_pos hnp]; exact ⟨S1, S2, -2, rfl, rfl, same⟩
  rw [if_neg hnp, if_neg hnp]
  have h6 := hv.1.2.2.1
  have hL := hv.1.2.2.2.2.2.2.2.2 s hs
  have h9 : 2 ^ (E.1 17 s) ≤ 2 ^ 9 := Nat.pow_le_pow_right (by decide) hL.2.1
  have hp : E.2.2.2 1 < E.1 9 1 := by rcases hw.2.2.1 with z | z; exact absurd z hnp; exact z
  generalize hP : E.2.2.2 1 = p at hp
  obtain ⟨T, eT, hT, hfT⟩ := faceQ h1 hp
  obtain ⟨⟨U, v⟩, eU, hUv, hU, hfU⟩ := clearC hT hs (n := 0) (by decide)
  have hUv : v = nI (bt (clE E p s 0) (E.1 17 s)) := hUv
  have hU : SV E p U := hU
  have hfU : frD T U := hfU
  subst hUv
  have eU : fX7_clearSeconds T (nI s) 0 = some (U, nI (bt (clE E p s 0) (E.1 17 s))) := eU
  have hlt := bt_lt (P := clE E p s 0) (E.1 17 s)
  generalize hb : bt (clE E p s 0) (E.1 17 s) = b at eU hlt
  have r1 := RB_ask r (qC_SV hU) (frE_tr hfT (frE_D hfU)) (frQ_rf (S := S2))
  obtain ⟨X, eX, x1, x2, x3, x4, x5⟩ := beforeC hU.2.1 hv r1.2.1.2.1
  obtain ⟨Y, eY, y1, y2, y3⟩ := addTakeC (s := s) (b := b) (al := 2 ^ (E.1 17 s) - 1) x1.2.1 (by omega) (by omega) (by omega)
  have y17 : Y.1 17 s = nI (E.1 17 s) := by rw [y3 17 (by decide) (by decide) (by decide)]; exact (x1.1.2.2.2.2.2.2.2.2.1 s hs).1
  obtain ⟨Z, eZ, z1, z2, z3⟩ := standC (n := E.1 17 s) y1
  have eall : fX5_allSeconds X (nI s) = some (nI (2 ^ (E.1 17 s) - 1)) := by
    unfold fX5_allSeconds
    rw [qi_ck (by omega) (by decide), qi_cl (by omega), (x1.1.2.2.2.2.2.2.2.2.1 s hs).1, sh1m _ (by omega)]
  rw [h1.2.1.2.1.2.1, hP, eT, Option.bind_some, eU]
  show ∃ S1' S2' rr, ((fX11_beforeChange U).bind fun S_3 => (fX5_allSeconds S_3 (nI s)).bind fun r_3 => (fX6_addTake S_3 31 (nI s) (nI b) r_3).bind fun S_4 => qv_ck (nI s) 6 ((fX6_stand S_4 31 (S_4.1 17 (Int32.toNatClampNeg (nI s)))).bind fun S_5 => some (S_5, nI b))) = some (S1', rr) ∧ _ ∧ _
  rw [eX, Option.bind_some, eall, Option.bind_some, eY, Option.bind_some, qi_ck (by omega) (by decide), qi_cl (by omega), y17, eZ, Option.bind_some]
  -- the reference
  obtain ⟨A, eA, a1, a2, a3, a4⟩ := copiesM h2
  have a371 : A.1 37 1 = nI p := by rw [← hP]; exact a1.2.1 1 (by decide)
  obtain ⟨B, eB, k1, k2⟩ := fillsM a1 hv hp (m := E.1 17 s) (by omega)
  have hHB := HM_frL a1 k2
  obtain ⟨⟨C, v⟩, eC, cv, cf⟩ := clearM hHB hv hs (n := 0) (p := p) (by decide) (fun k hk => by rw [Nat.zero_add]; exact k1 k hk)
  have cv : v = nI b := by rw [← hb]; exact cv
  have cf : frB B C := cf
  subst cv
  have eC : fX12_clearFrom B (nI s) 0 = some (C, nI b) := eC
  have hHC := HM_fr hHB cf
  rw [eA, Option.bind_some, ck_c (show qv_in 1 32 = true by decide), longM a1.1 hv hs, Option.bind_some, tc1, a371, eB, Option.bind_some, eC]
  have e12 : 12 + nI s = nI (12 + s) := nI_add 12 s
  have e18 : 18 + nI s = nI (18 + s) := nI_add 18 s
  have e24 : 24 + nI s = nI (24 + s) := nI_add 24 s
  rw [e12, e18, e24]
  have c12 : ∀ {ρ : Type} {o : Option ρ}, qv_ck (nI (12 + s)) 32 o = o := fun {ρ} {o} => qi_ck (by omega) (by decide)
  have c18 : ∀ {ρ : Type} {o : Option ρ}, qv_ck (nI (18 + s)) 32 o = o := fun {ρ} {o} => qi_ck (by omega) (by decide)
  have c24 : ∀ {ρ : Type} {o : Option ρ}, qv_ck (nI (24 + s)) 32 o = o := fun {ρ} {o} => qi_ck (by omega) (by decide)
  unfold qv_cm
  rw [Option.bind_some]
  simp only [c12, c18, c24, qi_cl (show 12 + s < 2 ^ 31 by omega), qi_cl (show 18 + s < 2 ^ 31 by omega), qi_cl (show 24 + s < 2 ^ 31 by omega)]
  generalize hM1 : qv_si C 37 (12 + s) (C.1 37 (12 + s) ||| nI b) = M1
  generalize hM2 : qv_si M1 37 (18 + s) (M1.1 37 (18 + s) + 1) = M2
  have gM : ∀ q, q ≠ 37 → M2.1 q = C.1 q := fun q hq => by rw [← hM2, qs_si, qs_ne hq, ← hM1, qs_si, qs_ne hq]
  have gM2 : M2.2 = C.2 := by rw [← hM2, ← hM1]; rfl
  have rM : ∀ k, k < 32 → M2.1 37 k = nI (taR E.2.2.2 s b 0 k) := by
    intro k hk
    unfold taR
    rw [← hM2, qs_si, qs_eq]
    have hm1 : ∀ j, j < 32 → M1.1 37 j = nI (if j = 12 + s then E.2.2.2 j ||| b else E.2.2.2 j) := by
      intro j hj
      rw [← hM1, qs_si, qs_eq]
      by_cases e : j = 12 + s
      · rw [e, upd_eq, hHC.2.1 (12 + s) (by omega), nI_or, if_pos rfl]
      · rw [upd_ne e, if_neg e]; exact hHC.2.1 j hj
    by_cases e : k = 18 + s
    · rw [e, upd_eq, hm1 (18 + s) (by omega), if_neg (by omega), nI_1, if_neg (by omega), if_pos rfl]
    · rw [upd_ne e, hm1 k hk]
      by_cases e1 : k = 12 + s
      · rw [if_pos e1, if_pos e1]
      · rw [if_neg e1, if_neg e1, if_neg e]
        by_cases e2 : k = 24 + s
        · rw [if_pos e2]; rfl
        · rw [if_neg e2]
  have mM : mS lv E.1 E.2.1 M2.1 := mS_G (fun q q1 q2 => gM q (by omega)) (by rw [gM 0 (by decide)]) hHC.1
  rw [wholeM mM hv hs (by omega), Option.bind_some]
  have hbo : b < 2 ^ 9 := by omega
  have hrv : rV (i + 6) E.1 (stR (taR E.2.2.2 s b (if b = 2 ^ (E.1 17 s) - 1 then 1 else 0)) (E.1 17 s)) := by
    have hwl : (if b = 2 ^ (E.1 17 s) - 1 then 1 else 0) ≤ 1 := by split <;> omega
    refine ⟨fun k hk => ?_, ?_, fun t q1 q2 => ?_, fun t ht => ?_⟩
    · have w0 := r.1.1.1 0 (by decide)
      have w2 := r.1.1.1 2 (by decide)
      have wk := r.1.1.1 k hk
      have wj := Nat.or_lt_two_pow (hw.2.2.2.2 s (by omega)) hbo
      unfold stR taR
      by_cases e0 : k = 0
      · rw [if_pos e0, if_neg (by omega), if_neg (by omega), if_neg (by omega)]; omega
      · rw [if_neg e0]
        by_cases e2 : k = 2
        · rw [if_pos e2, if_neg (by omega), if_neg (by omega), if_neg (by omega)]; omega
        · rw [if_neg e2]
          by_cases f1 : k = 12 + s
          · rw [if_pos f1, f1]; omega
          · rw [if_neg f1]
            by_cases f2 : k = 18 + s
            · rw [if_pos f2]; omega
            · rw [if_neg f2]
              by_cases f3 : k = 24 + s
              · rw [if_pos f3]; omega
              · rw [if_neg f3]; omega
    · unfold stR taR
      rw [if_neg (by omega), if_neg (by omega), if_neg (by omega), if_neg (by omega), if_neg (by omega)]
      exact r.1.1.2.1
    · unfold stR taR
      rw [if_neg (by omega), if_neg (by omega), if_neg (by omega), if_neg (by omega), if_neg (by omega)]
      exact r.1.1.2.2.1 t q1 q2
    · unfold stR taR
      rw [if_neg (by omega), if_neg (by omega)]
      by_cases f1 : 12 + t = 12 + s
      · rw [if_pos f1]
        exact Nat.or_lt_two_pow (hw.2.2.2.2 t ht) hbo
      · rw [if_neg f1, if_neg (by omega), if_neg (by omega)]
        exact r.1.1.2.2.2 t ht
  have fin : ∀ M3 : qv_St, (∀ q, q ≠ 37 → M3.1 q = C.1 q) → M3.2 = C.2 → (∀ k, k < 32 → M3.1 37 k = nI (taR E.2.2.2 s b (if b = 2 ^ (E.1 17 s) - 1 then 1 else 0) k)) → ∃ (S1' : qv_St) (S2' : qv_St) (rr : Int32), some (Z, nI b) = some (S1', rr) ∧ ((fX12_longFor M3 (nI s)).bind fun r_5 => (fX12_stands M3 r_5).bind fun S_7 => (fX12_keeps S_7).bind fun S_8 => some (S_8, nI b)) = some (S2', rr) ∧ Rel (i + 6) S1' S2' := by
    intro M3 g3 g32 r3
    have mM3 : mS lv E.1 E.2.1 M3.1 := mS_G (fun q q1 q2 => g3 q (by omega)) (by rw [g3 0 (by decide)]) hHC.1
    obtain ⟨F, eF, f1, f2, f3⟩ := standsM (n := E.1 17 s) r3
    have gF : ∀ q, q ≠ 0 → q ≠ 34 → q ≠ 35 → q ≠ 37 → q ≠ 38 → F.1 q = S2.1 q := fun q q0 q1 q2 q3 q4 => by
      rw [f3 q q3, g3 q q3, cf.2.1 q q0 q1 q2, k2.2.1 q q0 q1 q2 q4, a3 q q0 q3]
    have gF0 : ∀ j, j ≠ 52 → j ≠ 55 → F.1 0 j = S2.1 0 j := fun j j1 j2 => by
      rw [f3 0 (by decide), g3 0 (by decide), cf.2.2 j j1, k2.2.2 j j1, a4 j j2]
    obtain ⟨K, eK, c1, c2, c3, c4, c5⟩ := keepsM (S := F) (n := n) (h := h) (R := E.2.2.2) (R' := stR (taR E.2.2.2 s b (if b = 2 ^ (E.1 17 s) - 1 then 1 else 0)) (E.1 17 s)) (hM_G (gF0 57 (by decide) (by decide)) (gF 39 (by decide) (by decide) (by decide) (by decide) (by decide)) r.2.2.1.2.1) (fun k hk => by rw [gF 36 (by decide) (by decide) (by decide) (by decide) (by decide)]; exact h2.2.2.1 k hk) f1
    rw [longM mM3 hv hs, Option.bind_some, eF, Option.bind_some, eK, Option.bind_some]
    refine ⟨Z, K, _, rfl, rfl, chg_fin r1 hi (stR (taR E.2.2.2 s b (if b = 2 ^ (E.1 17 s) - 1 then 1 else 0)) (E.1 17 s)) _ _ hrv (pushH_rV r.1.1 r.1.2.1) z1 (hC_G (fun q q1 q2 => by rw [z3 q (by omega), y3 q (by omega) (by omega) (by omega)]) x3) (by rw [z3 260 (by decide), y3 260 (by decide) (by decide) (by decide)]; exact x2) (fun c cc cn => by rw [z3 c (by omega), y3 c (by omega) (by omega) (by omega)]; exact x5 c (by omega) cn) c1 c2 (by rw [c3, f2, g32, cf.1, k2.1, a2]) (fun q q1 q2 q3 q4 q5 q6 q7 => by rw [c4 q q1 q4 q7, gF q q1 q2 q3 q5 q6]) (fun j j1 j2 j3 => by rw [c5 j j1, gF0 j j3 j2])⟩
  by_cases hwh : b = 2 ^ (E.1 17 s) - 1
  · rw [if_pos hwh, if_neg n10]
    refine fin _ (fun q hq => by rw [qs_si, qs_ne hq]; exact gM q hq) gM2 (fun k hk => ?_)
    rw [if_pos hwh, qs_si, qs_eq]
    by_cases e : k = 24 + s
    · rw [e, upd_eq, rM (24 + s) (by omega), nI_1]
      unfold taR
      rw [if_neg (by omega), if_neg (by omega), if_pos rfl, if_neg (by omega), if_neg (by omega), if_pos rfl]
    · rw [upd_ne e, rM k hk]
      unfold taR
      rw [if_neg e, if_neg e]
  · rw [if_neg hwh, if_pos (show (0 : Int32) = 0 from rfl)]
    have := fin M2 gM gM2
    rw [if_neg hwh] at this
    exact this rM
theorem rel_hold {i : Nat} {S1 S2 : qv_St} (a : Int32) (hi : i + 6 ≤ 3072) (hr : Rel i S1 S2) : ∃ (S1' : qv_St) (S2' : qv_St) (r : Int32), fX11_hold S1 a = some (S1', r) ∧ fX12_hold S2 a = some (S2', r) ∧ Rel (i + 6) S1' S2' := by
  obtain ⟨E, lv, n, h, sl, tn, tp, ts, tz, r⟩ := hr
  have same : Rel (i + 6) S1 S2 := ⟨E, lv, n, h, sl, tn, tp, ts, tz, RB_mono (by omega) r⟩
  have h1 := r.2.1.1
  have h2 := r.2.2.1.1
  unfold fX11_hold fX12_hold
  have hN5 := qN
  generalize qv_N = N at hN5 ⊢
  simp only [qb_e]
  rcases rgI a 0 2 0 2 rfl rfl (by decide) (by decide) with ⟨e1, e2⟩ | ⟨s, _, hs, rfl, e1, e2⟩
  · rw [e1, e2, b0, b0, if_pos rfl, if_pos rfl]; exact ⟨S1, S2, 0, rfl, rfl, same⟩
  rw [e1, e2, b1, b1, if_neg n10, if_neg n10, qi_ck (show s < 3 by omega) (by decide), qi_ck (show s < 3 by omega) (by decide), qi_cl (by omega), slot_at s (by omega), Option.bind_some, nb1]
  obtain ⟨X, eX, x1, x2, x3⟩ := copyC (q := 239 + 5 * s) (p := 31) (by omega) h1.2.1.2.1
  rw [eX, Option.bind_some]
  obtain ⟨⟨r1, r2, r3, r4, r5⟩, ⟨c1, c2, c3, c4⟩, ⟨m1, m2, m3, m4, m5⟩, t, p⟩ := r
  have hor : X.1 0 7 ||| (1 : Int32) <<< (nI s &&& 31) = nI (bt (fun k => (sl k).isSome || (k == s)) 3) := by
    rw [x3 0 (by omega), c3.1, bt_or (by omega) (by decide)]
  rw [hor]
  generalize hY : qv_si X 0 7 (nI (bt (fun k => (sl k).isSome || (k == s)) 3)) = Y
  have gY : ∀ c, c ≠ 0 → (c < 239 + 5 * s ∨ 239 + 5 * s + 4 < c) → Y.1 c = S1.1 c := fun c c0 cc => by rw [← hY, qs_si, qs_ne c0]; exact x3 c cc
  have lp : okk (qv_lp2 N (fun self_1 (S_2 : qv_St) (x2_1 : Int32) => if 32 ≤ x2_1 then some (S_2, (1 : Int32)) else qv_ck x2_1 32 (qv_ck (32 * nI s + x2_1) 96 (self_1 (qv_si S_2 47 (Int32.toNatClampNeg (32 * nI s + x2_1)) (S_2.1 36 (Int32.toNatClampNeg x2_1))) (x2_1 + 1)))) (qv_si S2 46 s 1) 0) (fun z => z.2 = 1 ∧ (∀ k, k < 32 → z.1.1 47 (32 * s + k) = nI (E.2.2.2 k)) ∧ (∀ m, (m < 32 * s ∨ 32 * s + 32 ≤ m) → z.1.1 47 m = S2.1 47 m) ∧ z.1.1 46 = upd (S2.1 46) s 1 ∧ z.1.2 = S2.2 ∧ ∀ q, q ≠ 46 → q ≠ 47 → z.1.1 q = S2.1 q) := by
    refine ok_lp2 (fun c U x => ∃ i, c = 32 - i ∧ i ≤ 32 ∧ x = nI i ∧ (∀ k, k < i → U.1 47 (32 * s + k) = nI (E.2.2.2 k)) ∧ (∀ m, (m < 32 * s ∨ 32 * s + 32 ≤ m) → U.1 47 m = S2.1 47 m) ∧ U.1 46 = upd (S2.1 46) s 1 ∧ U.2 = S2.2 ∧ ∀ q, q ≠ 46 → q ≠ 47 → U.1 q = S2.1 q) ?_ N 32 _ 0 ⟨0, rfl, by omega, rfl, fun k hk => by omega, fun m _ => by rw [qs_si, qs_ne (by decide)], by rw [qs_si, qs_eq], rfl, fun q q1 q2 => by rw [qs_si, qs_ne q1]⟩ (by omega)
    rintro self c U x ⟨i, rfl, hi, rfl, v1, v2, v3, v4, v5⟩ ih
    by_cases e : i = 32
    · exact ok_pos (by rw [e]; decide) (ok_s ⟨rfl, by rw [e] at v1; exact v1, v2, v3, v4, v5⟩)
    · have e32 : 32 * nI s + nI i = nI (32 * s + i) := by rw [show (32 : Int32) = nI 32 from rfl, pk_mul, nI_add]
      rw [e32]
      refine ok_neg (show ¬ (32 : Int32) ≤ nI i from nI_ge (b := 32) (by omega) (by decide)) (ok_ck i rfl (by omega) (by decide) (ok_ck (32 * s + i) rfl (by omega) (by decide) ?_))
      rw [qi_cl (by omega), qi_cl (by omega), nI_1, qs_si, v5 36 (by decide) (by decide), m1.2.2.1 i (by omega)]
      refine ih (32 - (i + 1)) _ _ (by omega) ⟨i + 1, rfl, by omega, rfl, fun k hk => ?_, fun m hm => ?_, by rw [qs_ne (by decide)]; exact v3, v4, fun q q1 q2 => by rw [qs_ne q2]; exact v5 q q1 q2⟩
      · rw [qs_eq]
        by_cases ek : k = i
        · rw [ek, upd_eq]
        · rw [upd_ne (by omega)]; exact v1 k (by omega)
      · rw [qs_eq, upd_ne (by omega)]; exact v2 m hm
  obtain ⟨⟨Z, v⟩, eZ, z0, z1, z2, z3, z4, z5⟩ := lp
  have z0 : v = 1 := z0
  subst z0
  have z1 : ∀ k, k < 32 → Z.1 47 (32 * s + k) = nI (E.2.2.2 k) := z1
  have z2 : ∀ m, (m < 32 * s ∨ 32 * s + 32 ≤ m) → Z.1 47 m = S2.1 47 m := z2
  have z3 : Z.1 46 = upd (S2.1 46) s 1 := z3
  have z4 : Z.2 = S2.2 := z4
  have z5 : ∀ q, q ≠ 46 → q ≠ 47 → Z.1 q = S2.1 q := z5
  generalize hsl' : (fun k => if k = s then some E.2.2.2 else sl k) = sl'
  have esl : ∀ k, sl' k = if k = s then some E.2.2.2 else sl k := fun k => by rw [← hsl']
  refine ⟨Y, Z, 1, rfl, eZ, E, lv, n, h, sl', tn, tp, ts, tz, ⟨rV_mono r1 (by omega), fun j hj => rV_mono (r2 j hj) (by omega), fun k hk q hq => ?_, r4, r5⟩, ⟨⟨c1.1, ?_, ?_⟩, hC_G (fun q q1 q2 => gY q (by omega) (by omega)) c2, ⟨?_, fun k hk q hq => ?_⟩, tkC_G (by rw [gY 268 (by decide) (by omega)]) (gY 269 (by decide) (by omega)) c4⟩, ⟨⟨m1.1, mS_G (fun q q1 q2 => z5 q (by omega) (by omega)) (by rw [z5 0 (by decide) (by decide)]) m1.2.1, fun k hk => by rw [z5 36 (by decide) (by decide)]; exact m1.2.2.1 k hk, m1.2.2.2⟩, hM_G (by rw [z5 0 (by decide) (by decide)]) (z5 39 (by decide) (by decide)) m2, ⟨fun k hk => ?_, fun k hk q hq j hj => ?_⟩, tkM_G (by rw [z5 0 (by decide) (by decide)]) (z5 43 (by decide) (by decide)) (z5 44 (by decide) (by decide)) (z5 45 (by decide) (by decide)) m4, fun k hk => by rw [z4]; exact m5 k hk⟩, ?_, ?_⟩
  · by_cases e : k = s
    · rw [esl, if_pos e] at hq; cases hq; exact rV_mono r1 (by omega)
    · rw [esl, if_neg e] at hq; exact rV_mono (r3 k hk q hq) (by omega)
  · obtain ⟨x1', x2', x3', x4', x5'⟩ := c1.2.1
    refine ⟨cS_G (fun q q1 q2 _ _ => gY q (by omega) (by omega)) x1', cR_G (fun q q1 q2 => gY q (by omega) (by omega)) x2', by rw [gY 254 (by decide) (by omega)]; exact x3', ?_, ?_⟩
    · unfold cZ; rw [gY 255 (by decide) (by omega), gY 256 (by decide) (by omega), gY 257 (by decide) (by omega)]; exact x4'
    · intro k hk hk2; rw [gY 258 (by decide) (by omega), gY 259 (by decide) (by omega)]; exact x5' k hk hk2
  · rcases c1.2.2 with y | ⟨p', y1, y2, y3, y4⟩
    · exact Or.inl (by rw [gY 260 (by decide) (by omega)]; exact y)
    · exact Or.inr ⟨p', by rw [gY 260 (by decide) (by omega)]; exact y1, y2, by rw [gY 261 (by decide) (by omega)]; exact y3, by rw [gY 262 (by decide) (by omega)]; exact y4⟩
  · rw [← hY, qs_si, qs_eq, upd_eq]
    congr 1
    refine bt_congr _ (fun k hk => ?_)
    show _ = (sl' k).isSome
    rw [esl]
    by_cases e : k = s
    · rw [if_pos e, e]; simp
    · rw [if_neg e, beq_eq_false_iff_ne.mpr e, Bool.or_false]
  · by_cases e : k = s
    · rw [esl, if_pos e] at hq; cases hq
      rw [e]
      exact cR_G (fun q q1 q2 => by rw [← hY, qs_si, qs_ne (by omega)]) x1
    · rw [esl, if_neg e] at hq
      exact cR_G (fun q q1 q2 => gY q (by omega) (by omega)) (c3.2 k hk q hq)
  · rw [z3, esl]
    by_cases e : k = s
    · rw [e, upd_eq, if_pos rfl]; rfl
    · rw [upd_ne e, if_neg e]; exact m3.1 k hk
  · by_cases e : k = s
    · rw [esl, if_pos e] at hq; cases hq
      rw [e]; exact z1 j hj
    · rw [esl, if_neg e] at hq
      rw [z2 _ (by omega)]; exact m3.2 k hk q hq j hj
  · exact rT_G (by rw [gY 1 (by decide) (by omega)]) (gY 2 (by decide) (by omega)) (by rw [z5 0 (by decide) (by decide)]) (z5 1 (by decide) (by decide)) t
  · rw [gY 7 (by decide) (by omega), z5 0 (by decide) (by decide)]; exact p
theorem rel_restore {i : Nat} {S1 S2 : qv_St} (a : Int32) (hi : i + 6 ≤ 3072) (hr : Rel i S1 S2) : ∃ (S1' : qv_St) (S2' : qv_St) (r : Int32), fX11_restore S1 a = some (S1', r) ∧ fX12_restore S2 a = some (S2', r) ∧ Rel (i + 6) S1' S2' := by
  obtain ⟨E, lv, n, h, sl, tn, tp, ts, tz, r⟩ := hr
  have same : Rel (i + 6) S1 S2 := ⟨E, lv, n, h, sl, tn, tp, ts, tz, RB_mono (by omega) r⟩
  have c3 := r.2.1.2.2.1
  have m3 := r.2.2.1.2.2.1
  unfold fX11_restore fX12_restore
  have hN5 := qN
  generalize qv_N = N at hN5 ⊢
  simp only [qj_e, qb_e]
  rcases rgI a 0 2 0 2 rfl rfl (by decide) (by decide) with ⟨e1, e2⟩ | ⟨s, _, hs, rfl, e1, e2⟩
  · rw [e1, e2, b0, b0, if_pos rfl, if_pos rfl]; exact ⟨S1, S2, 0, rfl, rfl, same⟩
  have hbl := bt_lt (P := fun s => (sl s).isSome) 3
  rw [e1, e2, b1, b1, if_neg n10, if_neg n10, qi_ck (show s < 3 by omega) (by decide), qi_ck (show s < 3 by omega) (by decide), qi_cl (by omega), slot_at s (by omega), Option.bind_some, m3.1 s (by omega), c3.1, bit_get (by omega) (by omega)]
  have htst := bt_test (P := fun s => (sl s).isSome) 3 s (by omega)
  cases hsl : sl s with
  | none =>
    have h0 : bt (fun s => (sl s).isSome) 3 / 2 ^ s % 2 = 0 := by
      rcases Nat.mod_two_eq_zero_or_one (bt (fun s => (sl s).isSome) 3 / 2 ^ s) with z | z
      · exact z
      · have := htst.mp z
        rw [hsl] at this
        cases this
    rw [h0, if_pos (show nI 0 = 0 from rfl), if_pos (show (if (none : Option (Nat → Nat)).isSome = true then (1 : Int32) else 0) = 0 from rfl)]
    exact ⟨S1, S2, 0, rfl, rfl, same⟩
  | some R =>
    rw [htst.mpr (by rw [hsl]; rfl), if_neg (by decide), if_neg (show ¬ (if (some R : Option (Nat → Nat)).isSome = true then (1 : Int32) else 0) = 0 from n10)]
    obtain ⟨X, eX, x1, x2, x3⟩ := copyC (q := 31) (p := 239 + 5 * s) (by omega) (c3.2 s (by omega) R hsl)
    rw [eX, Option.bind_some]
    unfold fX7_drop
    simp only [qb_e, Option.bind_some]
    generalize hY : qv_si (qv_si X 36 2 0) 260 5 (-1) = Y
    have gY : ∀ c, c ≠ 36 → c ≠ 260 → Y.1 c = X.1 c := fun c h1 h2 => by rw [← hY, qs_si, qs_ne h2, qs_si, qs_ne h1]
    have y36 : ∀ j, j ≠ 2 → Y.1 36 j = S1.1 36 j := fun j hj => by rw [← hY, qs_si, qs_ne (by decide), qs_si, qs_eq, upd_ne hj, x3 36 (by omega)]
    have y362 : Y.1 36 2 = nI 0 := by rw [← hY, qs_si, qs_ne (by decide), qs_si, qs_eq, upd_eq]; rfl
    have lp : okk (qv_lp2 N (fun self_1 (S_3 : qv_St) (x2_1 : Int32) => if 32 ≤ x2_1 then some (qv_si S_3 0 57 0, (1 : Int32)) else qv_ck (32 * nI s + x2_1) 96 (qv_ck x2_1 32 (self_1 (qv_si S_3 36 (Int32.toNatClampNeg x2_1) (S_3.1 47 (Int32.toNatClampNeg (32 * nI s + x2_1)))) (x2_1 + 1)))) S2 0) (fun z => z.2 = 1 ∧ (∀ k, k < 32 → z.1.1 36 k = nI (R k)) ∧ z.1.1 0 57 = nI 0 ∧ z.1.2 = S2.2 ∧ (∀ q, q ≠ 0 → q ≠ 36 → z.1.1 q = S2.1 q) ∧ (∀ j, j ≠ 57 → z.1.1 0 j = S2.1 0 j)) := by
      refine ok_lp2 (fun c U x => ∃ i, c = 32 - i ∧ i ≤ 32 ∧ x = nI i ∧ (∀ k, k < i → U.1 36 k = nI (R k)) ∧ U.2 = S2.2 ∧ (∀ q, q ≠ 36 → U.1 q = S2.1 q)) ?_ N 32 S2 0 ⟨0, rfl, by omega, rfl, fun k hk => by omega, rfl, fun q _ => rfl⟩ (by omega)
      rintro self c U x ⟨i, rfl, hi, rfl, v1, v2, v3⟩ ih
      by_cases e : i = 32
      · refine ok_pos (by rw [e]; decide) (ok_s ⟨rfl, fun k hk => ?_, ?_, v2, fun q q1 q2 => ?_, fun j hj => ?_⟩)
        · rw [e] at v1
          show (qv_si U 0 57 0).1 36 k = _
          rw [qs_si, qs_ne (by decide)]; exact v1 k hk
        · show (qv_si U 0 57 0).1 0 57 = _
          rw [qs_si, qs_eq, upd_eq]; rfl
        · show (qv_si U 0 57 0).1 q = _
          rw [qs_si, qs_ne q1]; exact v3 q q2
        · show (qv_si U 0 57 0).1 0 j = _
          rw [qs_si, qs_eq, upd_ne hj, v3 0 (by decide)]
      · have e32 : 32 * nI s + nI i = nI (32 * s + i) := by rw [show (32 : Int32) = nI 32 from rfl, pk_mul, nI_add]
        rw [e32]
        refine ok_neg (show ¬ (32 : Int32) ≤ nI i from nI_ge (b := 32) (by omega) (by decide)) (ok_ck (32 * s + i) rfl (by omega) (by decide) (ok_ck i rfl (by omega) (by decide) ?_))
        rw [qi_cl (by omega), qi_cl (by omega), nI_1, qs_si, v3 47 (by decide), m3.2 s (by omega) R hsl i (by omega)]
        refine ih (32 - (i + 1)) _ _ (by omega) ⟨i + 1, rfl, by omega, rfl, fun k hk => ?_, v2, fun q q1 => by rw [qs_ne q1]; exact v3 q q1⟩
        rw [qs_eq]
        by_cases ek : k = i
        · rw [ek, upd_eq]
        · rw [upd_ne ek]; exact v1 k (by omega)
    obtain ⟨⟨Z, v⟩, eZ, z0, z1, z2, z3, z4, z5⟩ := lp
    have z0 : v = 1 := z0
    subst z0
    obtain ⟨top, t1, t2, t3, t4, t5⟩ := r.2.1.2.1
    refine ⟨Y, Z, 1, rfl, eZ, chg_fin r hi R 0 h (rV_mono (r.1.2.2.1 s (by omega) R hsl) (by omega)) (fun j hj => by omega) (cR_G (fun q q1 q2 => gY q (by omega) (by omega)) x1) ⟨top, t1, by rw [y36 1 (by decide)]; exact t2, y362, by omega, fun j hj => by omega⟩ (by rw [← hY, qs_si, qs_eq, upd_eq]) (fun c cc cn => by rw [gY c (by omega) cn]; exact x3 c (by omega)) z1 ⟨z2, by omega, fun j hj => by omega⟩ z3 (fun q q1 q2 q3 q4 q5 q6 q7 => z4 q q1 q4) (fun j j1 j2 j3 => z5 j j1)⟩
