/-! the class's survey -/
def sdE (E : sE) (p n : Nat) : Nat := pkS (sN (fun k => hrE E k p (E.2.2.2 0 + n)) (E.1 9 0)).1 (sN (fun k => hrE E k p (E.2.2.2 0 + n)) (E.1 9 0)).2.1 (sN (fun k => hrE E k p (E.2.2.2 0 + n)) (E.1 9 0)).2.2 (if ruE E n = 0 then 0 else 1)
def clE (E : sE) (p s n k : Nat) : Bool := decide (loE E p (n + k) ≤ beE E s k (E.2.2.2 0 + (n + k)))
def goE (E : sE) (p s n : Nat) : Bool := bt (clE E p s n) (E.1 17 s) == 2 ^ (E.1 17 s) - 1
theorem goE_iff {E : sE} {p s n : Nat} : goE E p s n = true ↔ ∀ k, k < E.1 17 s → clE E p s n k = true := by
  unfold goE
  rw [beq_iff_eq]
  exact bt_all _
def vdN (v : Nat → Nat) : Nat := v 0 + 4 * v 1 + 16 * v 2 + 64 * v 3 + 256 * v 4 + 1024 * v 5
def vdOK (E : sE) (p n : Nat) (x : Int32) : Prop := ∃ v : Nat → Nat, x = nI (vdN v) ∧ ∀ s, s < 6 → v s = 0 ∨ v s = if goE E p s n = true then 1 else 2
def svP (E : sE) (p : Nat) (S : qv_St) : Prop := S.1 260 5 = nI p ∧ p < E.1 9 1 ∧ (∀ n, n < 1545 → S.1 261 n = 0 ∨ S.1 261 n = nI (sdE E p n)) ∧ (∀ n, n < 1545 → vdOK E p n (S.1 262 n))
def SV (E : sE) (p : Nat) (S : qv_St) : Prop := vE E ∧ HC E S ∧ svP E p S
def frD (S S' : qv_St) : Prop := S'.2 = S.2 ∧ (∀ q, q ≠ 21 → q ≠ 25 → q ≠ 29 → (q < 255 ∨ q = 260 ∨ 262 < q) → S'.1 q = S.1 q)
theorem frD_rf {S : qv_St} : frD S S := ⟨rfl, fun _ _ _ _ _ => rfl⟩
theorem frD_tr {S T U : qv_St} (h : frD S T) (h2 : frD T U) : frD S U := ⟨h2.1.trans h.1, fun q a b c d => (h2.2 q a b c d).trans (h.2 q a b c d)⟩
theorem frD_C {S T : qv_St} (h : frC S T) : frD S T := ⟨h.1, fun q a b c d => h.2 q a b c (by omega)⟩
theorem SV_fr {E : sE} {p : Nat} {S T : qv_St} (h : SV E p S) (hc : HC E T) (f : frC S T) : SV E p T := by
  obtain ⟨h1, h2, h3, h4, h5, h6⟩ := h
  refine ⟨h1, hc, ?_, h4, ?_, ?_⟩
  · rw [f.2 260 (by decide) (by decide) (by decide) (by decide)]; exact h3
  · rw [f.2 261 (by decide) (by decide) (by decide) (by decide)]; exact h5
  · rw [f.2 262 (by decide) (by decide) (by decide) (by decide)]; exact h6
theorem HC_keep {E : sE} {S T : qv_St} (h : HC E S) (f : ∀ q, q < 260 → T.1 q = S.1 q) : HC E T := by
  refine ⟨cS_G (fun q a b _ _ => f q (by omega)) h.1, cR_G (fun q a b => f q (by omega)) h.2.1, by rw [f 254 (by decide)]; exact h.2.2.1, ?_, ?_⟩
  · unfold cZ
    rw [f 255 (by decide), f 256 (by decide), f 257 (by decide)]
    exact h.2.2.2.1
  · intro k hk hk2
    rw [f 258 (by decide), f 259 (by decide)]
    exact h.2.2.2.2 k hk hk2
theorem agE_lt {E : sE} (hv : vE E) {k t pd a : Nat} (hk : k < E.1 9 0) (ha : agP E.1 E.2.2.1 pd k t = some a) : a < 100 := by
  unfold agP at ha
  by_cases h1 : t < pd
  · rw [if_pos h1] at ha; cases ha
  · rw [if_neg h1] at ha
    have := ag_lt ha
    have := (hv.1.2.2.2.2.2.2.1 k hk).2.2.2.2.2.1
    omega
theorem sdE_b {E : sE} (hv : vE E) {p n : Nat} : (sN (fun k => hrE E k p (E.2.2.2 0 + n)) (E.1 9 0)).1 < 128 ∧ (sN (fun k => hrE E k p (E.2.2.2 0 + n)) (E.1 9 0)).2.1 < 128 ∧ (sN (fun k => hrE E k p (E.2.2.2 0 + n)) (E.1 9 0)).2.2 < 16 := by
  have h := sN_le (f := fun k => hrE E k p (E.2.2.2 0 + n)) (m := 99) (E.1 9 0) (fun k _ => hrE_le)
  have := hv.1.1
  omega
theorem sdE_b1 {E : sE} {n : Nat} : (if ruE E n = 0 then 0 else 1) ≤ 1 := by split <;> omega
theorem soundC {E : sE} {p n : Nat} {S : qv_St} (h : SV E p S) (hn : n < 1545) : okk (fX7_soundAt S (nI n)) (fun z => z.2 = nI (sdE E p n) ∧ SV E p z.1 ∧ frD S z.1) := by
  unfold fX7_soundAt
  have hN5 := qN
  generalize qv_N = N at hN5 ⊢
  simp only [qj_e, qb_e]
  have hSV := h
  obtain ⟨hv, hC, hf, hp, hs, hvd⟩ := h
  have hR0 := hv.2.2 0 (by decide)
  have hR2 := hv.2.2 2 (by decide)
  have hn8 := hv.1.1
  refine ok_neg (nI_pos (by omega)) (ok_pos (show nI n < 1545 from nI_lt (b := 1545) hn (by decide)) (ok_ck n rfl hn (by decide) ?_))
  rw [qi_cl (by omega)]
  refine ok_if (fun h0 => ?_) (fun h0 => ?_)
  · have e31 : S.1 31 0 + nI n = nI (E.2.2.2 0 + n) := by rw [hC.2.1.1, nI_add]
    rw [e31]
    refine ok_lp5 (fun m T x3 x4 x5 x6 => ∃ i, m = E.1 9 0 - i ∧ i ≤ E.1 9 0 ∧ x6 = nI i ∧ x3 = nI (sN (fun k => hrE E k p (E.2.2.2 0 + n)) i).1 ∧ x4 = nI (sN (fun k => hrE E k p (E.2.2.2 0 + n)) i).2.1 ∧ x5 + 1 = nI (sN (fun k => hrE E k p (E.2.2.2 0 + n)) i).2.2 ∧ HC E T ∧ frC S T) ?_ N (E.1 9 0) S 0 0 (-1) 0 ⟨0, rfl, by omega, rfl, rfl, rfl, (show (-1 : Int32) + 1 = nI 0 by decide), hC, frC_rf⟩ (by omega)
    rintro self m T x3 x4 x5 x6 ⟨i, rfl, hi, rfl, rfl, rfl, h5, hT, hfr⟩ ih
    have hb := sN_le (f := fun k => hrE E k p (E.2.2.2 0 + n)) (m := 99) i (fun k _ => hrE_le)
    rw [hT.1.1]
    by_cases hi2 : i = E.1 9 0
    · subst hi2
      refine ok_pos (Int32.le_refl _) ?_
      rw [hT.2.1.2.2.1, nI_add]
      refine ok_cm (rustC hT hv (n := n) (by omega)) ?_
      rintro S2 r ⟨hr, hC2, hf2⟩
      have hr : r = _ := hr
      have hC2 : HC E S2 := hC2
      have hf2 : frC T S2 := hf2
      subst hr
      have fin : ∀ w, w = nI (262144 * (if ruE E n = 0 then 0 else 1)) → okk (qv_ck (nI n) 1545 (qv_ck (nI n) 1545 (some (qv_si S2 261 n ((((nI (sN (fun k => hrE E k p (E.2.2.2 0 + n)) (E.1 9 0)).1 ||| (nI (sN (fun k => hrE E k p (E.2.2.2 0 + n)) (E.1 9 0)).2.1 <<< (7 &&& 31))) ||| ((x5 + 1) <<< (14 &&& 31))) ||| w) ||| 524288), (qv_si S2 261 n ((((nI (sN (fun k => hrE E k p (E.2.2.2 0 + n)) (E.1 9 0)).1 ||| (nI (sN (fun k => hrE E k p (E.2.2.2 0 + n)) (E.1 9 0)).2.1 <<< (7 &&& 31))) ||| ((x5 + 1) <<< (14 &&& 31))) ||| w) ||| 524288)).1 261 n)))) (fun z => z.2 = nI (sdE E p n) ∧ SV E p z.1 ∧ frD S z.1) := by
        rintro w rfl
        obtain ⟨b1, b2, b3⟩ := sdE_b hv (p := p) (n := n)
        rw [h5, pack_eq b1 b2 b3 sdE_b1, qs_si, qs_eq, upd_eq]
        refine ok_ck n rfl hn (by decide) (ok_ck n rfl hn (by decide) (ok_s ⟨rfl, ?_, ?_⟩))
        · obtain ⟨q1, q2, q3, q4, q5, q6⟩ := SV_fr hSV hC2 (frC_tr hfr hf2)
          refine ⟨hv, HC_keep hC2 (fun q hq => qs_ne (by omega)), ?_, hp, fun j hj => ?_, fun j hj => ?_⟩
          · show (qs S2 261 _).1 260 5 = _
            rw [qs_ne (by decide)]; exact q3
          · show (qs S2 261 _).1 261 j = 0 ∨ (qs S2 261 _).1 261 j = _
            rw [qs_eq]
            by_cases e : j = n
            · subst e; rw [upd_eq]; exact Or.inr rfl
            · rw [upd_ne e]; exact q5 j hj
          · show vdOK E p j ((qs S2 261 _).1 262 j)
            rw [qs_ne (by decide)]; exact q6 j hj
        · refine frD_tr (frD_C (frC_tr hfr hf2)) ⟨rfl, fun q a b c d => ?_⟩
          exact qs_ne (by omega)
      by_cases hz : ruE E n = 0
      · rw [if_pos hz]
        refine ok_pos rfl (fin 0 (by rw [if_pos hz]; rfl))
      · rw [if_neg hz]
        refine ok_neg (by decide) (fin 262144 (by rw [if_neg hz]; rfl))
    · refine ok_neg (nI_ge (by omega) (by omega)) (ok_ck i rfl (by omega) (by decide) ?_)
      rw [qi_cl (by omega), hT.2.1.2.2.2.2.1 i (by omega), nI_1 i]
      have hpd := hv.2.2 (4 + i) (by omega)
      refine ok_cm (ageC2 hT hv (k := i) (by omega) (by omega) (by omega)) ?_
      rintro S5 r ⟨hr, hC5, hf5⟩
      have hr : r = _ := hr
      have hC5 : HC E S5 := hC5
      have hf5 : frC T S5 := hf5
      subst hr
      rw [hfr.2 260 (by decide) (by decide) (by decide) (by decide), hf]
      refine ok_cm (heardC hC5 hv (k := i) (p := p) (by omega) hp (fun a ha => agE_lt hv (by omega) ha)) ?_
      rintro S6 r ⟨hr, hC6, hf6⟩
      have hr : r = nI (hrE E i p (E.2.2.2 0 + n)) := hr
      have hC6 : HC E S6 := hC6
      have hf6 : frC S5 S6 := hf6
      subst hr
      have hh : hrE E i p (E.2.2.2 0 + n) ≤ 99 := hrE_le
      have hfr2 := frC_tr hfr (frC_tr hf5 hf6)
      refine ok_if (fun h1 => ?_) (fun h1 => ?_)
      · have h1 := (nI_leI (by omega) (by omega)).mp h1
        rw [mx_nI (by omega) (by omega)]
        refine ih (E.1 9 0 - (i + 1)) _ _ _ _ _ (by omega) ⟨i + 1, rfl, by omega, rfl, ?_, ?_, ?_, hC6, hfr2⟩
        · rw [sN, if_pos h1]
        · rw [sN, if_pos h1]
        · rw [sN, if_pos h1]; exact h5
      · have h1 : ¬ hrE E i p (E.2.2.2 0 + n) ≤ (sN (fun k => hrE E k p (E.2.2.2 0 + n)) i).1 := fun z => h1 (nI_le z (by omega))
        refine ih (E.1 9 0 - (i + 1)) _ _ _ _ _ (by omega) ⟨i + 1, rfl, by omega, rfl, ?_, ?_, ?_, hC6, hfr2⟩
        · rw [sN, if_neg h1]
        · rw [sN, if_neg h1]
        · rw [sN, if_neg h1]; exact nI_1 i
  · refine ok_ck n rfl hn (by decide) (ok_s ⟨?_, hSV, frD_rf⟩)
    rcases hs n hn with g | g
    · exact absurd g h0
    · exact g
theorem ru_50 {E : sE} {n : Nat} : 50 * (if ruE E n = 0 then 0 else 1) = ruE E n := by
  unfold ruE
  split <;> rfl
theorem noiseC {E : sE} {p n : Nat} {S : qv_St} (h : SV E p S) (hn : n < 1545) : okk (fX7_noiseAt S (nI n)) (fun z => z.2 = nI (loE E p n) ∧ SV E p z.1 ∧ frD S z.1) := by
  unfold fX7_noiseAt
  refine ok_cm (soundC h hn) ?_
  rintro S1 r ⟨hr, hS, hf⟩
  have hr : r = _ := hr
  subst hr
  obtain ⟨b1, b2, b3⟩ := sdE_b h.1 (p := p) (n := n)
  unfold sdE
  rw [nw_none b1 b2 b3 sdE_b1, Option.bind_some]
  refine ok_s ⟨?_, hS, hf⟩
  show nI _ = _
  rw [ru_50, sN_1, Nat.max_comm]
  rfl
/-- the noise in second n, noise j being paid for 300 seconds -/
def payE (E : sE) (j : Nat) : sE := (E.1, E.2.1, E.2.2.1, fun i => if i = 4 + j then max (E.2.2.2 (4 + j)) (E.2.2.2 0 + 300) else E.2.2.2 i)
theorem payE_hr {E : sE} {j k p n : Nat} : hrE (payE E j) k p (E.2.2.2 0 + n) = if k = j ∧ n < 300 then 0 else hrE E k p (E.2.2.2 0 + n) := by
  unfold hrE payE hrP
  by_cases e : k = j
  · subst e
    show hrA E.1 E.2.1 k p _ (agP E.1 E.2.2.1 (if 4 + k = 4 + k then max (E.2.2.2 (4 + k)) (E.2.2.2 0 + 300) else E.2.2.2 (4 + k)) k _) = _
    rw [if_pos rfl]
    unfold agP
    by_cases hn : n < 300
    · rw [if_pos (show E.2.2.2 0 + n < max (E.2.2.2 (4 + k)) (E.2.2.2 0 + 300) by omega), if_pos ⟨rfl, hn⟩]
      rfl
    · rw [if_neg (show ¬ (k = k ∧ n < 300) from fun z => hn z.2)]
      by_cases h2 : E.2.2.2 0 + n < E.2.2.2 (4 + k)
      · rw [if_pos (by omega), if_pos h2]
      · rw [if_neg (by omega), if_neg h2]
  · show hrA E.1 E.2.1 k p _ (agP E.1 E.2.2.1 (if 4 + k = 4 + j then _ else E.2.2.2 (4 + k)) k _) = _
    rw [if_neg (by omega), if_neg (fun z => e z.1)]
theorem payE_0 {E : sE} {j : Nat} : (payE E j).2.2.2 0 = E.2.2.2 0 := if_neg (by omega)
theorem payE_2 {E : sE} {j : Nat} : (payE E j).2.2.2 2 = E.2.2.2 2 := if_neg (by omega)
theorem payE_ru {E : sE} {j n : Nat} : ruE (payE E j) n = ruE E n := by
  unfold ruE
  rw [payE_0, payE_2]
  rfl
theorem payE_be {E : sE} {j s k t : Nat} : beE (payE E j) s k t = beE E s k t := rfl
theorem payE_lo {E : sE} {j p n : Nat} : loE (payE E j) p n = max (ruE E n) (if n < 300 then mxN (fun k => if k = j then 0 else hrE E k p (E.2.2.2 0 + n)) (E.1 9 0) else moE E p (E.2.2.2 0 + n)) := by
  unfold loE
  rw [payE_ru, payE_0, Nat.max_comm]
  congr 1
  unfold moE
  show mxN _ (E.1 9 0) = _
  by_cases h : n < 300
  · rw [if_pos h]
    refine mxN_congr _ (fun k _ => ?_)
    rw [payE_hr]
    by_cases e : k = j
    · rw [if_pos ⟨e, h⟩, if_pos e]
    · rw [if_neg (fun z => e z.1), if_neg e]
  · rw [if_neg h]
    refine mxN_congr _ (fun k _ => ?_)
    rw [payE_hr, if_neg (fun z => h z.2)]
def fuE (E : sE) (p s n : Nat) : Nat := fs (fun k => !clE E p s n k) 0 (E.1 17 s)
theorem fu_go {E : sE} {p s n : Nat} : goE E p s n = true ↔ fuE E p s n = E.1 17 s := by
  rw [goE_iff]
  obtain ⟨h1, h2, h3, h4⟩ := fs_spec (P := fun k => !clE E p s n k) (E.1 17 s) 0
  constructor
  · intro h
    refine fs_uniq (by omega) (by omega) (fun k _ hk => by show (!clE E p s n k) = false; rw [h k hk]; rfl) (fun h => by omega)
  · intro h k hk
    have := h3 k (by omega) (by unfold fuE at h; omega)
    simpa using this
def fuR (E : sE) (p s n : Nat) : Int32 := if fuE E p s n = E.1 17 s then -1 else nI (fuE E p s n)
theorem unclear_gen {E E' : sE} {p s n : Nat} {S : qv_St} {x : Int32} (h : SV E p S) (hs : s < E.1 9 2) (hn : n + 9 ≤ 1545) (hD : E'.1 = E.1) (h0 : E'.2.2.2 0 = E.2.2.2 0) (hW : E'.2.1 = E.2.1)
    (hx : ∀ k, n + k < 1545 → fX7_noiseWithout (if 300 ≤ nI (n + k) then -1 else x) (nI (sdE E p (n + k))) = some (nI (loE E' p (n + k)))) : okk (fX7_firstUnclear S (nI s) (nI n) x) (fun z => z.2 = fuR E' p s n ∧ SV E p z.1 ∧ frD S z.1) := by
  unfold fX7_firstUnclear
  have hN5 := qN
  generalize qv_N = N at hN5 ⊢
  simp only [qj_e, qb_e]
  have hv := h.1
  have hR0 := hv.2.2 0 (by decide)
  have hs6 := hv.1.2.2.1
  have hL := (hv.1.2.2.2.2.2.2.2.2 s hs)
  refine ok_lp2 (fun m T x4 => ∃ i, m = E.1 17 s - i ∧ i ≤ E.1 17 s ∧ x4 = nI i ∧ (∀ k, k < i → clE E' p s n k = true) ∧ SV E p T ∧ frD S T) ?_ N (E.1 17 s) S 0 ⟨0, rfl, by omega, rfl, fun k hk => by omega, h, frD_rf⟩ (by omega)
  rintro self m T x4 ⟨i, rfl, hi, rfl, hcl, hT, hf⟩ ih
  refine ok_ck s rfl (by omega) (by decide) ?_
  rw [qi_cl (by omega), (hT.2.1.1.2.2.2.2.2.2.2.2.1 s hs).1]
  by_cases hi2 : i = E.1 17 s
  · refine ok_pos (by rw [hi2]; exact Int32.le_refl _) (ok_s ⟨?_, hT, hf⟩)
    show -1 = fuR E' p s n
    unfold fuR
    rw [if_pos]
    rw [← fu_go, goE_iff]
    intro k hk
    exact hcl k (by rw [hD] at hk; omega)
  · refine ok_neg (nI_ge (by omega) (by omega)) ?_
    rw [nI_add, nI_1]
    have key : ∀ y, (y = if 300 ≤ nI (n + i) then -1 else x) → okk (qv_cm (fX7_soundAt T (nI (n + i))) fun S_2 r_1 => (fX7_noiseWithout y r_1).bind fun r_2 => qv_cm (fX0_borne S_2 (nI s) (nI i) ((S_2.1 31 0) + nI (n + i))) fun S_3 r_3 => if r_2 ≤ r_3 then self S_3 (nI (i + 1)) else some (S_3, nI i)) (fun z => z.2 = fuR E' p s n ∧ SV E p z.1 ∧ frD S z.1) := by
      rintro y rfl
      refine ok_cm (soundC hT (n := n + i) (by omega)) ?_
      rintro S2 r ⟨hr, hS2, hf2⟩
      have hr : r = _ := hr
      have hS2 : SV E p S2 := hS2
      have hf2 : frD T S2 := hf2
      subst hr
      rw [hx i (by omega), Option.bind_some, hS2.2.1.2.1.1, nI_add]
      refine ok_cm (borneC hS2.2.1 hv hs) ?_
      rintro S3 r ⟨hr, hC3, hf3⟩
      have hr : r = _ := hr
      have hC3 : HC E S3 := hC3
      have hf3 : frC S2 S3 := hf3
      subst hr
      have hlo : loE E' p (n + i) ≤ 99 := loE_le
      have hbe : beE E s i (E.2.2.2 0 + (n + i)) ≤ 99 := beE_le
      have hbe2 : beE E' s i (E'.2.2.2 0 + (n + i)) = beE E s i (E.2.2.2 0 + (n + i)) := by
        unfold beE
        rw [hD, hW, h0]
      have hS3 := SV_fr hS2 hC3 hf3
      have hf4 := frD_tr hf (frD_tr hf2 (frD_C hf3))
      refine ok_if (fun g => ?_) (fun g => ok_s ⟨?_, hS3, hf4⟩)
      · have g := (nI_leI (by omega) (by omega)).mp g
        refine ih (E.1 17 s - (i + 1)) _ _ (by omega) ⟨i + 1, rfl, by omega, rfl, fun k hk => ?_, hS3, hf4⟩
        by_cases e : k = i
        · subst e
          unfold clE
          rw [hbe2]
          exact decide_eq_true g
        · exact hcl k (by omega)
      · have g : ¬ loE E' p (n + i) ≤ beE E s i (E.2.2.2 0 + (n + i)) := fun z => g (nI_le z (by omega))
        have e : fuE E' p s n = i := fs_uniq (by omega) (by rw [hD]; omega) (fun k _ hk => by show (!clE E' p s n k) = false; rw [hcl k hk]; rfl) (fun _ => by
          show (!clE E' p s n i) = true
          unfold clE
          rw [hbe2, decide_eq_false g]
          rfl)
        show nI i = fuR E' p s n
        unfold fuR
        rw [e, if_neg (by rw [hD]; omega)]
    refine ok_if (fun g => key _ (by rw [if_pos g])) (fun g => key _ (by rw [if_neg g]))
theorem unclearC {E : sE} {p s n : Nat} {S : qv_St} (h : SV E p S) (hs : s < E.1 9 2) (hn : n + 9 ≤ 1545) : okk (fX7_firstUnclear S (nI s) (nI n) (-1)) (fun z => z.2 = fuR E p s n ∧ SV E p z.1 ∧ frD S z.1) := by
  refine unclear_gen h hs hn rfl rfl rfl (fun k hk => ?_)
  obtain ⟨b1, b2, b3⟩ := sdE_b h.1 (p := p) (n := n + k)
  have : (if 300 ≤ nI (n + k) then (-1 : Int32) else -1) = -1 := by split <;> rfl
  unfold sdE
  rw [this, nw_none b1 b2 b3 sdE_b1, ru_50, sN_1, Nat.max_comm]
  rfl
theorem unclearP {E : sE} {p s n j : Nat} {S : qv_St} (h : SV E p S) (hs : s < E.1 9 2) (hn : n + 9 ≤ 1545) (hj : j < 8) : okk (fX7_firstUnclear S (nI s) (nI n) (nI j)) (fun z => z.2 = fuR (payE E j) p s n ∧ SV E p z.1 ∧ frD S z.1) := by
  refine unclear_gen (E' := payE E j) h hs hn rfl payE_0 rfl (fun k hk => ?_)
  obtain ⟨b1, b2, b3⟩ := sdE_b h.1 (p := p) (n := n + k)
  rw [payE_lo]
  unfold sdE
  by_cases g : n + k < 300
  · rw [if_neg (show ¬ (300 : Int32) ≤ nI (n + k) from nI_ge (b := 300) g (by decide)), if_pos g, nw_one b1 b2 b3 sdE_b1 (by omega), ru_50, sN_2]
  · rw [if_pos (show (300 : Int32) ≤ nI (n + k) from nI_le (a := 300) (by omega) (by omega)), if_neg g, nw_none b1 b2 b3 sdE_b1, ru_50, sN_1]
    rfl
