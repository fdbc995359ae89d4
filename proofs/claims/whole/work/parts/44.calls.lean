/-! waits, rests, moves, pay, take, undo, hold, restore -/
theorem rel_waits {i : Nat} {S1 S2 : qv_St} (a : Int32) (hi : i + 6 ≤ 3072) (hr : Rel i S1 S2) : ∃ (S1' : qv_St) (S2' : qv_St) (r : Int32), fX11_waits S1 a = some (S1', r) ∧ fX12_waits S2 a = some (S2', r) ∧ Rel (i + 6) S1' S2' := by
  obtain ⟨E, lv, n, h, sl, tn, tp, ts, tz, r⟩ := hr
  have same : Rel (i + 6) S1 S2 := ⟨E, lv, n, h, sl, tn, tp, ts, tz, RB_mono (by omega) r⟩
  have h1 := r.2.1.1
  have h2 := r.2.2.1.1
  unfold fX11_waits fX12_waits
  rcases rgI a 0 300 0 300 rfl rfl (by decide) (by decide) with ⟨e1, e2⟩ | ⟨m, _, hm, rfl, e1, e2⟩
  · rw [e1, e2, b0, b0, if_pos rfl, if_pos rfl]; exact ⟨S1, S2, -1, rfl, rfl, same⟩
  rw [e1, e2, b1, b1, if_neg n10, if_neg n10]
  by_cases em : m = 0
  · subst em
    rw [if_pos (by decide), if_pos (by decide), ck_c (by decide), tc0, h2.2.2.1 0 (by decide), h1.2.1.2.1.1]
    exact ⟨S1, S2, _, rfl, rfl, same⟩
  rw [if_neg (nI_nle (by omega) (by omega)), if_neg (nI_ne0 (by omega) (by omega))]
  obtain ⟨X, eX, x1, x2, x3, x4, x5⟩ := beforeC h1.2.1 h1.1 r.2.1.2.1
  obtain ⟨Y, eY, y1, y2, y3⟩ := standC (n := m) x1.2.1
  obtain ⟨A, eA, a1, a2, a3, a4⟩ := copiesM h2
  obtain ⟨B, eB, k1, k2, k3⟩ := standsM (n := m) a1.2.1
  obtain ⟨C, eC, c1, c2, c3, c4, c5⟩ := keepsM (S := B) (n := n) (h := h) (R := E.2.2.2) (R' := stR E.2.2.2 m) (hM_G (by rw [k3 0 (by decide), a4 57 (by decide)]) (by rw [k3 39 (by decide), a3 39 (by decide) (by decide)]) r.2.2.1.2.1) (fun k hk => by rw [k3 36 (by decide), a3 36 (by decide) (by decide)]; exact h2.2.2.1 k hk) k1
  rw [eX, Option.bind_some, eY, Option.bind_some, eA, Option.bind_some, eB, Option.bind_some, eC, Option.bind_some, ck_c (by decide), tc0, c1 0 (by decide), y1.1]
  refine ⟨Y, C, _, rfl, rfl, chg_fin r hi (stR E.2.2.2 m) _ _ (rV_st r.1.1 hm) (pushH_rV r.1.1 r.1.2.1) y1 (hC_G (fun q q1 q2 => y3 q (by omega)) x3) (by rw [y3 260 (by decide)]; exact x2) (fun c cc cn => by rw [y3 c (by omega)]; exact x5 c (by omega) cn) c1 c2 (by rw [c3, k2, a2]) (fun q q1 q2 q3 q4 q5 q6 q7 => by rw [c4 q q1 q4 q7, k3 q q5, a3 q q1 q5]) (fun j j1 j2 _ => by rw [c5 j j1, k3 0 (by decide), a4 j j2])⟩
def reR (R : Nat → Nat) (n : Nat) : Nat → Nat := fun k => if k = 0 then R 0 + n else if k = 2 then 0 else R k
theorem rel_rests {i : Nat} {S1 S2 : qv_St} (a : Int32) (hi : i + 6 ≤ 3072) (hr : Rel i S1 S2) : ∃ (S1' : qv_St) (S2' : qv_St) (r : Int32), fX11_rests S1 a = some (S1', r) ∧ fX12_rests S2 a = some (S2', r) ∧ Rel (i + 6) S1' S2' := by
  obtain ⟨E, lv, n, h, sl, tn, tp, ts, tz, r⟩ := hr
  have same : Rel (i + 6) S1 S2 := ⟨E, lv, n, h, sl, tn, tp, ts, tz, RB_mono (by omega) r⟩
  have h1 := r.2.1.1
  have h2 := r.2.2.1.1
  unfold fX11_rests fX12_rests
  simp only [qb_e]
  rcases rgI a 1 300 1 300 rfl rfl (by decide) (by decide) with ⟨e1, e2⟩ | ⟨m, hm0, hm, rfl, e1, e2⟩
  · rw [e1, e2, b0, b0, if_pos rfl, if_pos rfl]; exact ⟨S1, S2, -1, rfl, rfl, same⟩
  rw [e1, e2, b1, b1, if_neg n10, if_neg n10]
  obtain ⟨X, eX, x1, x2, x3, x4, x5⟩ := beforeC h1.2.1 h1.1 r.2.1.2.1
  obtain ⟨A, eA, a1, a2, a3, a4⟩ := copiesM h2
  rw [eX, Option.bind_some, eA, Option.bind_some]
  simp only [ck_c (show qv_in 0 32 = true by decide), ck_c (show qv_in 2 32 = true by decide), tc0, tc2]
  obtain ⟨w0, w1, w2, w3, w4, w5⟩ := cR_31 x1.2.1
  generalize hY : qv_si (qv_si X 31 0 (X.1 31 0 + nI m)) 31 2 0 = Y
  generalize hB : qv_si (qv_si A 37 0 (A.1 37 0 + nI m)) 37 2 0 = B
  have gY : ∀ c, c ≠ 31 → Y.1 c = X.1 c := fun c hc => by rw [← hY, qs_si, qs_ne hc, qs_si, qs_ne hc]
  have gB : ∀ c, c ≠ 37 → B.1 c = A.1 c := fun c hc => by rw [← hB, qs_si, qs_ne hc, qs_si, qs_ne hc]
  have gB2 : B.2 = A.2 := by rw [← hB]; rfl
  have yR : cR (reR E.2.2.2 m) Y.1 31 := by
    refine ⟨?_, ?_, ?_, ?_, fun k hk => ?_, fun s hs => ?_⟩
    · rw [← hY, qs_si, qs_eq, upd_ne (by decide), qs_si, qs_eq, upd_eq, w0, nI_add]; rfl
    · rw [← hY, qs_si, qs_eq, upd_ne (by decide), qs_si, qs_eq, upd_ne (by decide)]; exact w1
    · rw [← hY, qs_si, qs_eq, upd_eq]; rfl
    · rw [← hY, qs_si, qs_eq, upd_ne (by decide), qs_si, qs_eq, upd_ne (by decide)]; exact w3
    · show Y.1 32 k = nI (reR E.2.2.2 m (4 + k))
      rw [gY 32 (by decide), w4 k hk]
      unfold reR
      rw [if_neg (by omega), if_neg (by omega)]
    · show Y.1 33 s = nI (reR E.2.2.2 m (12 + s)) ∧ Y.1 34 s = nI (reR E.2.2.2 m (18 + s)) ∧ Y.1 35 s = nI (reR E.2.2.2 m (24 + s))
      unfold reR
      rw [gY 33 (by decide), gY 34 (by decide), gY 35 (by decide), if_neg (by omega), if_neg (by omega), if_neg (by omega), if_neg (by omega), if_neg (by omega), if_neg (by omega)]
      exact w5 s hs
  have bR : ∀ k, k < 32 → B.1 37 k = nI (reR E.2.2.2 m k) := by
    intro k hk
    rw [← hB, qs_si, qs_eq]
    unfold reR
    by_cases k2 : k = 2
    · rw [k2, upd_eq, if_neg (by decide), if_pos rfl]; rfl
    · rw [upd_ne k2, qs_si, qs_eq]
      by_cases k0 : k = 0
      · rw [k0, upd_eq, a1.2.1 0 (by decide), nI_add, if_pos rfl]
      · rw [upd_ne k0, if_neg k0, if_neg k2]; exact a1.2.1 k hk
  have hrv : rV (i + 6) E.1 (reR E.2.2.2 m) := by
    refine ⟨fun k hk => ?_, r.1.1.2.1, fun s q1 q2 => ?_, fun s hs => ?_⟩
    · have q0 := r.1.1.1 0 (by decide)
      have qk := r.1.1.1 k hk
      unfold reR
      by_cases k0 : k = 0
      · rw [if_pos k0]; omega
      · rw [if_neg k0]
        by_cases k2 : k = 2
        · rw [if_pos k2]; omega
        · rw [if_neg k2]; omega
    · unfold reR; rw [if_neg (by omega), if_neg (by omega)]; exact r.1.1.2.2.1 s q1 q2
    · unfold reR; rw [if_neg (by omega), if_neg (by omega)]; exact r.1.1.2.2.2 s hs
  obtain ⟨C, eC, c1, c2, c3, c4, c5⟩ := keepsM (S := B) (n := n) (h := h) (R := E.2.2.2) (R' := reR E.2.2.2 m) (hM_G (by rw [gB 0 (by decide), a4 57 (by decide)]) (by rw [gB 39 (by decide), a3 39 (by decide) (by decide)]) r.2.2.1.2.1) (fun k hk => by rw [gB 36 (by decide), a3 36 (by decide) (by decide)]; exact h2.2.2.1 k hk) bR
  rw [eC, Option.bind_some, c1 0 (by decide), yR.1]
  refine ⟨Y, C, _, rfl, rfl, chg_fin r hi (reR E.2.2.2 m) _ _ hrv (pushH_rV r.1.1 r.1.2.1) yR (hC_G (fun q q1 q2 => gY q (by omega)) x3) (by rw [gY 260 (by decide)]; exact x2) (fun c cc cn => by rw [gY c (by omega)]; exact x5 c (by omega) cn) c1 c2 (by rw [c3, gB2, a2]) (fun q q1 q2 q3 q4 q5 q6 q7 => by rw [c4 q q1 q4 q7, gB q q5, a3 q q1 q5]) (fun j j1 j2 _ => by rw [c5 j j1, gB 0 (by decide), a4 j j2])⟩
def plR (R : Nat → Nat) (p : Nat) : Nat → Nat := fun k => if k = 1 then p else R k
theorem rel_moves {i : Nat} {S1 S2 : qv_St} (a : Int32) (hi : i + 6 ≤ 3072) (hr : Rel i S1 S2) : ∃ (S1' : qv_St) (S2' : qv_St) (r : Int32), fX11_moves S1 a = some (S1', r) ∧ fX12_moves S2 a = some (S2', r) ∧ Rel (i + 6) S1' S2' := by
  obtain ⟨E, lv, n, h, sl, tn, tp, ts, tz, r⟩ := hr
  have same : Rel (i + 6) S1 S2 := ⟨E, lv, n, h, sl, tn, tp, ts, tz, RB_mono (by omega) r⟩
  have h1 := r.2.1.1
  have h2 := r.2.2.1.1
  have hv := h1.1
  unfold fX11_moves fX12_moves
  simp only [qb_e]
  rcases plI (x := a) h1 h2 with ⟨e1, e2⟩ | ⟨p, hp, rfl, e1, e2⟩
  · rw [e1, e2, b0, b0, if_pos rfl, if_pos rfl]; exact ⟨S1, S2, -1, rfl, rfl, same⟩
  rw [e1, e2, b1, b1, if_neg n10, if_neg n10, ck_c (show qv_in 1 32 = true by decide), tc1, h2.2.2.1 1 (by decide), h1.2.1.2.1.2.1]
  by_cases ep : p = E.2.2.2 1
  · rw [if_pos (by rw [ep]), if_pos (by rw [ep])]; exact ⟨S1, S2, -2, rfl, rfl, same⟩
  have h4 := hv.1.2.1
  have hR1 := hv.2.2 1 (by decide)
  rw [if_neg (fun z => ep ((nI_eq (by omega) (by omega)).mp z)), if_neg (fun z => ep ((nI_eq (by omega) (by omega)).mp z).symm)]
  obtain ⟨X, eX, x1, x2, x3, x4, x5⟩ := beforeC h1.2.1 h1.1 r.2.1.2.1
  obtain ⟨A, eA, a1, a2, a3, a4⟩ := copiesM h2
  rw [eX, Option.bind_some, eA, Option.bind_some]
  simp only [ck_c (show qv_in 0 32 = true by decide), ck_c (show qv_in 1 32 = true by decide), tc0]
  obtain ⟨w0, w1, w2, w3, w4, w5⟩ := cR_31 x1.2.1
  generalize hY : qv_si X 31 1 (nI p) = Y
  generalize hB : qv_si A 37 1 (nI p) = B
  have gY : ∀ c, c ≠ 31 → Y.1 c = X.1 c := fun c hc => by rw [← hY, qs_si, qs_ne hc]
  have gB : ∀ c, c ≠ 37 → B.1 c = A.1 c := fun c hc => by rw [← hB, qs_si, qs_ne hc]
  have gB2 : B.2 = A.2 := by rw [← hB]; rfl
  have yR : cR (plR E.2.2.2 p) Y.1 31 := by
    refine ⟨?_, ?_, ?_, ?_, fun k hk => ?_, fun s hs => ?_⟩
    · rw [← hY, qs_si, qs_eq, upd_ne (by decide)]; exact w0
    · rw [← hY, qs_si, qs_eq, upd_eq]; rfl
    · rw [← hY, qs_si, qs_eq, upd_ne (by decide)]; exact w2
    · rw [← hY, qs_si, qs_eq, upd_ne (by decide)]; exact w3
    · show Y.1 32 k = nI (plR E.2.2.2 p (4 + k))
      rw [gY 32 (by decide), w4 k hk]
      unfold plR
      rw [if_neg (by omega)]
    · show Y.1 33 s = nI (plR E.2.2.2 p (12 + s)) ∧ Y.1 34 s = nI (plR E.2.2.2 p (18 + s)) ∧ Y.1 35 s = nI (plR E.2.2.2 p (24 + s))
      unfold plR
      rw [gY 33 (by decide), gY 34 (by decide), gY 35 (by decide), if_neg (by omega), if_neg (by omega), if_neg (by omega)]
      exact w5 s hs
  have bR : ∀ k, k < 32 → B.1 37 k = nI (plR E.2.2.2 p k) := by
    intro k hk
    rw [← hB, qs_si, qs_eq]
    unfold plR
    by_cases k1 : k = 1
    · rw [k1, upd_eq, if_pos rfl]
    · rw [upd_ne k1, if_neg k1]; exact a1.2.1 k hk
  have hrv0 : rV i E.1 (plR E.2.2.2 p) := by
    refine ⟨fun k hk => ?_, Or.inr ?_, fun s q1 q2 => ?_, fun s hs => ?_⟩
    · have qk := r.1.1.1 k hk
      unfold plR
      by_cases k1 : k = 1
      · rw [if_pos k1]; omega
      · rw [if_neg k1]; omega
    · unfold plR; rw [if_pos rfl]; exact hp
    · unfold plR; rw [if_neg (by omega)]; exact r.1.1.2.2.1 s q1 q2
    · unfold plR; rw [if_neg (by omega)]; exact r.1.1.2.2.2 s hs
  have hmv := hv.1.2.2.2.1
  have y915 : Y.1 9 15 = nI (E.1 9 15) := by rw [gY 9 (by decide)]; exact x1.1.2.2.2.1
  have b18 : B.1 0 18 = nI lv := by rw [gB 0 (by decide)]; exact a1.1.2.1
  have b21 : B.1 21 lv = nI (E.1 9 15) := by rw [gB 21 (by decide)]; exact a1.1.2.2.2.2.2.1
  have hlv := a1.1.1
  rw [y915, b18, qi_ck (by omega) (by decide), qi_cl (by omega), b21]
  obtain ⟨Z, eZ, z1, z2, z3⟩ := standC (n := E.1 9 15) yR
  obtain ⟨D, eD, d1, d2, d3⟩ := standsM (n := E.1 9 15) bR
  obtain ⟨C, eC, c1, c2, c3, c4, c5⟩ := keepsM (S := D) (n := n) (h := h) (R := E.2.2.2) (R' := stR (plR E.2.2.2 p) (E.1 9 15)) (hM_G (by rw [d3 0 (by decide), gB 0 (by decide), a4 57 (by decide)]) (by rw [d3 39 (by decide), gB 39 (by decide), a3 39 (by decide) (by decide)]) r.2.2.1.2.1) (fun k hk => by rw [d3 36 (by decide), gB 36 (by decide), a3 36 (by decide) (by decide)]; exact h2.2.2.1 k hk) d1
  rw [eZ, Option.bind_some, eD, Option.bind_some, eC, Option.bind_some, c1 0 (by decide), z1.1]
  refine ⟨Z, C, _, rfl, rfl, chg_fin r hi (stR (plR E.2.2.2 p) (E.1 9 15)) _ _ (rV_st hrv0 (by omega)) (pushH_rV r.1.1 r.1.2.1) z1 (hC_G (fun q q1 q2 => by rw [z3 q (by omega), gY q (by omega)]) x3) (by rw [z3 260 (by decide), gY 260 (by decide)]; exact x2) (fun c cc cn => by rw [z3 c (by omega), gY c (by omega)]; exact x5 c (by omega) cn) c1 c2 (by rw [c3, d2, gB2, a2]) (fun q q1 q2 q3 q4 q5 q6 q7 => by rw [c4 q q1 q4 q7, d3 q q5, gB q q5, a3 q q1 q5]) (fun j j1 j2 _ => by rw [c5 j j1, d3 0 (by decide), gB 0 (by decide), a4 j j2])⟩
def paR (R : Nat → Nat) (k m c : Nat) : Nat → Nat := fun j => if j = 3 then R 3 - c else if j = 4 + k then max (R (4 + k)) (R 0) + m else R j
theorem rel_pay {i : Nat} {S1 S2 : qv_St} (a b : Int32) (hi : i + 6 ≤ 3072) (hr : Rel i S1 S2) : ∃ (S1' : qv_St) (S2' : qv_St) (r : Int32), fX11_pay S1 a b = some (S1', r) ∧ fX12_pay S2 a b = some (S2', r) ∧ Rel (i + 6) S1' S2' := by
  obtain ⟨E, lv, n, h, sl, tn, tp, ts, tz, r⟩ := hr
  have same : Rel (i + 6) S1 S2 := ⟨E, lv, n, h, sl, tn, tp, ts, tz, RB_mono (by omega) r⟩
  have h1 := r.2.1.1
  have h2 := r.2.2.1.1
  have hv := h1.1
  unfold fX11_pay fX12_pay
  simp only [qb_e]
  rcases noI (x := a) h1 h2 with ⟨e1, e2⟩ | ⟨k, hk, rfl, e1, e2⟩
  · rw [e1, e2, b0, b0, if_pos rfl, if_pos rfl]; exact ⟨S1, S2, -1, rfl, rfl, same⟩
  rw [e1, e2, b1, b1, if_neg n10, if_neg n10]
  rcases rgI b 1 300 1 300 rfl rfl (by decide) (by decide) with ⟨e1, e2⟩ | ⟨m, hm0, hm, rfl, e1, e2⟩
  · rw [e1, e2, b0, b0, if_pos rfl, if_pos rfl]; exact ⟨S1, S2, -1, rfl, rfl, same⟩
  rw [e1, e2, b1, b1, if_neg n10, if_neg n10]
  have h8 := hv.1.1
  have hlv := h2.2.1.1
  obtain ⟨d1, d2, d3, d4, d5, d6, d7, d8⟩ := hv.1.2.2.2.2.2.2.1 k hk
  have hix : 8 * S2.1 0 18 + nI k = nI (8 * lv + k) := by rw [h2.2.1.2.1, show (8 : Int32) = nI 8 from rfl, pk_mul, nI_add]
  have hp1 : S1.1 15 k = nI (E.1 15 k) := h1.2.1.1.2.2.2.2.2.2.1 15 (by decide) (by decide) k hk
  have hp2 : S2.1 15 (8 * lv + k) = nI (E.1 15 k) := h2.2.1.2.2.2.2.2.2.2.2.1 15 (by decide) (by decide) k hk
  have hb3 := r.1.1.1 3 (by decide)
  have hb0 := r.1.1.1 0 (by decide)
  have hbk := r.1.1.1 (4 + k) (by omega)
  have hcost : E.1 15 k * m ≤ 99 * 300 := Nat.mul_le_mul d8 hm
  rw [hix, qi_ck (by omega) (by decide), qi_ck (by omega) (by decide), qi_cl (by omega), qi_cl (by omega), hp1, hp2, pk_mul, pk_mul, Nat.mul_comm m, ck_c (show qv_in 3 32 = true by decide), tc3, h2.2.2.1 3 (by decide), (cR_31 h1.2.1.2.1).2.2.2.1]
  generalize hc : E.1 15 k * m = c at hcost
  by_cases hcl : c ≤ E.2.2.2 3
  · rw [if_pos (nI_le hcl (by omega)), if_pos (nI_le hcl (by omega))]
    obtain ⟨X, eX, x1, x2, x3, x4, x5⟩ := beforeC h1.2.1 h1.1 r.2.1.2.1
    obtain ⟨A, eA, a1, a2, a3, a4⟩ := copiesM h2
    rw [eX, Option.bind_some, eA, Option.bind_some]
    simp only [ck_c (show qv_in 3 32 = true by decide)]
    rw [qi_ck (show k < 8 by omega) (by decide), qi_ck (show k < 8 by omega) (by decide)]
    obtain ⟨w0, w1, w2, w3, w4, w5⟩ := cR_31 x1.2.1
    have q32 : (qv_si X 31 3 (X.1 31 3 - nI c)).1 32 k = nI (E.2.2.2 (4 + k)) := by rw [qs_si, qs_ne (by decide)]; exact w4 k (by omega)
    have q31 : (qv_si X 31 3 (X.1 31 3 - nI c)).1 31 0 = nI (E.2.2.2 0) := by rw [qs_si, qs_eq, upd_ne (by decide)]; exact w0
    rw [q32, q31, mx_nI (by omega) (by omega), nI_add]
    generalize hY : qv_si (qv_si X 31 3 (X.1 31 3 - nI c)) 32 k (nI (max (E.2.2.2 (4 + k)) (E.2.2.2 0) + m)) = Y
    generalize hB : qv_si A 37 3 (A.1 37 3 - nI c) = B
    have gY : ∀ c, c ≠ 31 → c ≠ 32 → Y.1 c = X.1 c := fun c hc h2 => by rw [← hY, qs_si, qs_ne h2, qs_si, qs_ne hc]
    have gB : ∀ c, c ≠ 37 → B.1 c = A.1 c := fun c hc => by rw [← hB, qs_si, qs_ne hc]
    have gB2 : B.2 = A.2 := by rw [← hB]; rfl
    have y31 : ∀ j, j ≠ 3 → Y.1 31 j = X.1 31 j := fun j hj => by rw [← hY, qs_si, qs_ne (by decide), qs_si, qs_eq, upd_ne hj]
    have y313 : Y.1 31 3 = nI (E.2.2.2 3 - c) := by rw [← hY, qs_si, qs_ne (by decide), qs_si, qs_eq, upd_eq, w3, pk_sub hcl]
    have yR : cR (paR E.2.2.2 k m c) Y.1 31 := by
      have pl : ∀ j, j < 3 → paR E.2.2.2 k m c j = E.2.2.2 j := fun j hj => by unfold paR; rw [if_neg (by omega), if_neg (by omega)]
      refine ⟨by rw [y31 0 (by decide), pl 0 (by decide)]; exact w0, by rw [y31 1 (by decide), pl 1 (by decide)]; exact w1, by rw [y31 2 (by decide), pl 2 (by decide)]; exact w2, y313, fun j hj => ?_, fun s hs => ?_⟩
      · show Y.1 32 j = nI (paR E.2.2.2 k m c (4 + j))
        unfold paR
        rw [if_neg (by omega), ← hY, qs_si, qs_eq]
        by_cases ej : j = k
        · rw [ej, upd_eq, if_pos rfl]
        · rw [upd_ne ej, if_neg (by omega), qs_si, qs_ne (by decide)]; exact w4 j hj
      · show Y.1 33 s = nI (paR E.2.2.2 k m c (12 + s)) ∧ Y.1 34 s = nI (paR E.2.2.2 k m c (18 + s)) ∧ Y.1 35 s = nI (paR E.2.2.2 k m c (24 + s))
        unfold paR
        rw [gY 33 (by decide) (by decide), gY 34 (by decide) (by decide), gY 35 (by decide) (by decide), if_neg (by omega), if_neg (by omega), if_neg (by omega), if_neg (by omega), if_neg (by omega), if_neg (by omega)]
        exact w5 s hs
    have hb37 : ∀ j, j < 32 → B.1 37 j = nI (if j = 3 then E.2.2.2 3 - c else E.2.2.2 j) := by
      intro j hj
      rw [← hB, qs_si, qs_eq]
      by_cases ej : j = 3
      · rw [ej, upd_eq, a1.2.1 3 (by decide), pk_sub hcl, if_pos rfl]
      · rw [upd_ne ej, if_neg ej]; exact a1.2.1 j hj
    have e4 : 4 + nI k = nI (4 + k) := nI_add 4 k
    have pay2 : okk (fX12_pays B (nI k) (nI m)) (fun z => (∀ j, j < 32 → z.1 37 j = nI (paR E.2.2.2 k m c j)) ∧ z.2 = B.2 ∧ ∀ q, q ≠ 37 → z.1 q = B.1 q) := by
      unfold fX12_pays
      simp only [qj_e, qb_e]
      have r0 : B.1 37 0 = nI (E.2.2.2 0) := by rw [hb37 0 (by decide), if_neg (by decide)]
      have rk : B.1 37 (4 + k) = nI (E.2.2.2 (4 + k)) := by rw [hb37 (4 + k) (by omega), if_neg (by omega)]
      rw [e4, tc0, qi_cl (by omega), r0, rk]
      have fin : ∀ T : qv_St, (∀ q, q ≠ 37 → T.1 q = B.1 q) → T.2 = B.2 → (∀ j, j < 32 → j ≠ 4 + k → T.1 37 j = B.1 37 j) → T.1 37 (4 + k) = nI (max (E.2.2.2 (4 + k)) (E.2.2.2 0)) → okk (qv_ck (nI (4 + k)) 32 (qv_ck (nI (4 + k)) 32 (some (qv_si T 37 (4 + k) (T.1 37 (4 + k) + nI m))))) (fun z => (∀ j, j < 32 → z.1 37 j = nI (paR E.2.2.2 k m c j)) ∧ z.2 = B.2 ∧ ∀ q, q ≠ 37 → z.1 q = B.1 q) := by
        intro T t1 t2 t3 t4
        refine ok_ck (4 + k) rfl (by omega) (by decide) (ok_ck (4 + k) rfl (by omega) (by decide) (ok_s ?_))
        rw [t4, nI_add, qs_si]
        refine ⟨fun j hj => ?_, t2, fun q hq => by rw [qs_ne hq, t1 q hq]⟩
        rw [qs_eq]
        unfold paR
        by_cases ej : j = 4 + k
        · rw [ej, upd_eq, if_neg (by omega), if_pos rfl]
        · rw [upd_ne ej, t3 j hj ej, hb37 j hj]
          by_cases e3 : j = 3
          · rw [if_pos e3, if_pos e3]
          · rw [if_neg e3, if_neg e3, if_neg ej]
      refine ok_ck (4 + k) rfl (by omega) (by decide) (ok_ck 0 rfl (by decide) (by decide) (ok_if (fun z => ?_) (fun z => ?_)))
      · have z := (nI_leI (by omega) (by omega)).mp z
        have := fin B (fun _ _ => rfl) rfl (fun _ _ _ => rfl) (by rw [rk, Nat.max_eq_left z])
        rw [rk] at this
        exact this
      · have z : ¬ E.2.2.2 0 ≤ E.2.2.2 (4 + k) := fun y => z (nI_le y (by omega))
        refine ok_ck 0 rfl (by decide) (by decide) (ok_ck (4 + k) rfl (by omega) (by decide) ?_)
        exact fin (qv_si B 37 (4 + k) (nI (E.2.2.2 0))) (fun q hq => by rw [qs_si, qs_ne hq]) rfl (fun j _ hj => by rw [qs_si, qs_eq, upd_ne hj]) (by rw [qs_si, qs_eq, upd_eq, Nat.max_eq_right (by omega)])
    obtain ⟨D, eD, d1', d2', d3'⟩ := pay2
    obtain ⟨C, eC, c1, c2, c3, c4, c5⟩ := keepsM (S := D) (n := n) (h := h) (R := E.2.2.2) (R' := paR E.2.2.2 k m c) (hM_G (by rw [d3' 0 (by decide), gB 0 (by decide), a4 57 (by decide)]) (by rw [d3' 39 (by decide), gB 39 (by decide), a3 39 (by decide) (by decide)]) r.2.2.1.2.1) (fun k hk => by rw [d3' 36 (by decide), gB 36 (by decide), a3 36 (by decide) (by decide)]; exact h2.2.2.1 k hk) d1'
    have hrv : rV (i + 6) E.1 (paR E.2.2.2 k m c) := by
      refine ⟨fun j hj => ?_, ?_, fun s q1 q2 => ?_, fun s hs => ?_⟩
      · have qj := r.1.1.1 j hj
        unfold paR
        by_cases e3 : j = 3
        · rw [if_pos e3]; omega
        · rw [if_neg e3]
          by_cases ek : j = 4 + k
          · rw [if_pos ek]; omega
          · rw [if_neg ek]; omega
      · unfold paR; rw [if_neg (by omega), if_neg (by omega)]; exact r.1.1.2.1
      · unfold paR; rw [if_neg (by omega), if_neg (by omega)]; exact r.1.1.2.2.1 s q1 q2
      · unfold paR; rw [if_neg (by omega), if_neg (by omega)]; exact r.1.1.2.2.2 s hs
    rw [eD, Option.bind_some, eC, Option.bind_some, c1 3 (by decide), y313]
    refine ⟨Y, C, _, rfl, rfl, chg_fin r hi (paR E.2.2.2 k m c) _ _ hrv (pushH_rV r.1.1 r.1.2.1) yR (hC_G (fun q q1 q2 => gY q (by omega) (by omega)) x3) (by rw [gY 260 (by decide) (by decide)]; exact x2) (fun c cc cn => by rw [gY c (by omega) (by omega)]; exact x5 c (by omega) cn) c1 c2 (by rw [c3, d2', gB2, a2]) (fun q q1 q2 q3 q4 q5 q6 q7 => by rw [c4 q q1 q4 q7, d3' q q5, gB q q5, a3 q q1 q5]) (fun j j1 j2 _ => by rw [c5 j j1, d3' 0 (by decide), gB 0 (by decide), a4 j j2])⟩
  · rw [if_neg (nI_ge (by omega) (by omega)), if_neg (nI_ge (by omega) (by omega))]
    exact ⟨S1, S2, -2, rfl, rfl, same⟩
theorem rel_undo {i : Nat} {S1 S2 : qv_St} (hi : i + 6 ≤ 3072) (hr : Rel i S1 S2) : ∃ (S1' : qv_St) (S2' : qv_St) (r : Int32), fX11_undo S1 = some (S1', r) ∧ fX12_undo S2 = some (S2', r) ∧ Rel (i + 6) S1' S2' := by
  obtain ⟨E, lv, n, h, sl, tn, tp, ts, tz, r⟩ := hr
  have same : Rel (i + 6) S1 S2 := ⟨E, lv, n, h, sl, tn, tp, ts, tz, RB_mono (by omega) r⟩
  obtain ⟨u1, u2, u3⟩ := r.2.2.1.2.1
  have hsz : S1.1 36 2 = nI n := by obtain ⟨top, q1, q2, q3, q4⟩ := r.2.1.2.1; exact q3
  unfold fX11_undo fX12_undo
  have hN5 := qN
  generalize qv_N = N at hN5 ⊢
  simp only [qb_e]
  rw [hsz, u1]
  by_cases en : n = 0
  · rw [if_pos (by rw [en]; rfl), if_pos (by rw [en]; rfl)]; exact ⟨S1, S2, 0, rfl, rfl, same⟩
  rw [if_neg (nI_ne0 (by omega) (by omega)), if_neg (nI_ne0 (by omega) (by omega))]
  obtain ⟨X, eX, x1, x2, x3, x4⟩ := popC (by omega) r.2.1.2.1
  rw [eX, Option.bind_some]
  unfold fX7_drop
  simp only [qb_e, Option.bind_some]
  have eu : nI n - 1 = nI (n - 1) := by rw [show (1 : Int32) = nI 1 from rfl, pk_sub (by omega)]
  rw [eu]
  have gY : ∀ c, c ≠ 260 → (qv_si X 260 5 (-1)).1 c = X.1 c := fun c hc => by rw [qs_si, qs_ne hc]
  have lp : okk (qv_lp2 N (fun self_1 (S_2 : qv_St) (x1_1 : Int32) => if 32 ≤ x1_1 then some (S_2, (1 : Int32)) else qv_ck (32 * S_2.1 0 57 + x1_1) 1280 (qv_ck x1_1 32 (self_1 (qv_si S_2 36 (Int32.toNatClampNeg x1_1) (S_2.1 39 (Int32.toNatClampNeg (32 * S_2.1 0 57 + x1_1)))) (x1_1 + 1)))) (qv_si S2 0 57 (nI (n - 1))) 0) (fun z => z.2 = 1 ∧ (∀ k, k < 32 → z.1.1 36 k = nI (h 0 k)) ∧ z.1.1 0 57 = nI (n - 1) ∧ z.1.2 = S2.2 ∧ (∀ q, q ≠ 0 → q ≠ 36 → z.1.1 q = S2.1 q) ∧ (∀ j, j ≠ 57 → z.1.1 0 j = S2.1 0 j)) := by
    refine ok_lp2 (fun c U x => ∃ i, c = 32 - i ∧ i ≤ 32 ∧ x = nI i ∧ (∀ k, k < i → U.1 36 k = nI (h 0 k)) ∧ U.1 0 57 = nI (n - 1) ∧ U.2 = S2.2 ∧ (∀ q, q ≠ 0 → q ≠ 36 → U.1 q = S2.1 q) ∧ (∀ j, j ≠ 57 → U.1 0 j = S2.1 0 j)) ?_ N 32 _ 0 ⟨0, rfl, by omega, rfl, fun k hk => by omega, by rw [qs_si, qs_eq, upd_eq], rfl, fun q q1 q2 => by rw [qs_si, qs_ne q1], fun j hj => by rw [qs_si, qs_eq, upd_ne hj]⟩ (by omega)
    rintro self c U x ⟨i, rfl, hi, rfl, v1, v2, v3, v4, v5⟩ ih
    by_cases e : i = 32
    · exact ok_pos (by rw [e]; decide) (ok_s ⟨rfl, by rw [e] at v1; exact v1, v2, v3, v4, v5⟩)
    · have e32 : 32 * U.1 0 57 + nI i = nI (32 * (n - 1) + i) := by rw [v2, show (32 : Int32) = nI 32 from rfl, pk_mul, nI_add]
      rw [e32]
      refine ok_neg (show ¬ (32 : Int32) ≤ nI i from nI_ge (b := 32) (by omega) (by decide)) (ok_ck (32 * (n - 1) + i) rfl (by omega) (by decide) (ok_ck i rfl (by omega) (by decide) ?_))
      rw [qi_cl (by omega), qi_cl (by omega), nI_1, qs_si, v4 39 (by decide) (by decide)]
      refine ih (32 - (i + 1)) _ _ (by omega) ⟨i + 1, rfl, by omega, rfl, fun k hk => ?_, by rw [qs_ne (by decide)]; exact v2, v3, fun q q1 q2 => by rw [qs_ne q2]; exact v4 q q1 q2, fun j hj => by rw [qs_ne (by decide)]; exact v5 j hj⟩
      rw [qs_eq]
      by_cases ek : k = i
      · rw [ek, upd_eq]
        have := u3 0 (by omega) i (by omega)
        rw [Nat.sub_zero] at this
        exact this
      · rw [upd_ne ek]; exact v1 k (by omega)
  obtain ⟨⟨Z, v⟩, eZ, z0, z1, z2, z3, z4, z5⟩ := lp
  have z0 : v = 1 := z0
  subst z0
  refine ⟨_, Z, 1, rfl, eZ, chg_fin r hi (h 0) (n - 1) (fun j => h (j + 1)) (rV_mono (r.1.2.1 0 (by omega)) (by omega)) (fun j hj => rV_mono (r.1.2.1 (j + 1) (by omega)) (by omega)) (cR_G (fun q q1 q2 => gY q (by omega)) x1) (hC_G (fun q q1 q2 => gY q (by omega)) x2) (by rw [qs_si, qs_eq, upd_eq]) (fun c cc cn => by rw [gY c cn]; exact x4 c cc) z1 ⟨z2, by omega, fun j hj k hk => ?_⟩ z3 (fun q q1 q2 q3 q4 q5 q6 q7 => z4 q q1 q4) (fun j j1 j2 j3 => z5 j j1)⟩
  have := u3 (j + 1) (by omega) k hk
  rw [z4 39 (by decide) (by decide)]
  rw [show n - 1 - 1 - j = n - 1 - (j + 1) by omega]
  exact this
