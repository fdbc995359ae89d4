/-! orders on the reference's side -/
def dueM (E : sE) (S : qv_St) : Prop := S.1 0 60 = nI (mD E) ∧ ∀ j, j < mD E → S.1 40 j = nI (duE E j)
theorem HM_0 {lv : Nat} {E : sE} {S T : qv_St} (h : HM lv E S) (f : ∀ q, q ≠ 0 → q ≠ 38 → q ≠ 40 → q ≠ 41 → q ≠ 42 → T.1 q = S.1 q) (g : ∀ j, j ≠ 60 → j ≠ 62 → j ≠ 63 → T.1 0 j = S.1 0 j) : HM lv E T :=
  ⟨mS_G (fun q q1 q2 => f q (by omega) (by omega) (by omega) (by omega) (by omega)) (g 18 (by decide) (by decide) (by decide)) h.1, fun k hk => by rw [f 37 (by decide) (by decide) (by decide) (by decide) (by decide)]; exact h.2.1 k hk, by rw [g 55 (by decide) (by decide) (by decide)]; exact h.2.2⟩
theorem findsM {lv : Nat} {E : sE} {S : qv_St} (h : qM lv E S) : okk (fX12_findsDue S) (fun z => HM lv E z ∧ frQ S z ∧ dueM E z) := by
  unfold fX12_findsDue
  have hN5 := qN
  generalize qv_N = N at hN5 ⊢
  simp only [qj_e, qb_e]
  have hv := h.1
  have h6 := hv.1.2.2.1
  refine ok_bd (copiesQ h) ?_
  rintro T ⟨hT, hfT⟩
  refine ok_lp2 (fun m U x => ∃ i, m = E.1 9 2 - i ∧ i ≤ E.1 9 2 ∧ x = nI i ∧ U.1 0 60 = nI (dsF (ndB E) i).length ∧ (∀ j, j < (dsF (ndB E) i).length → U.1 40 j = nI ((dsF (ndB E) i).getD j 0)) ∧ U.2 = T.2 ∧ (∀ q, q ≠ 0 → q ≠ 40 → U.1 q = T.1 q) ∧ (∀ j, j ≠ 60 → U.1 0 j = T.1 0 j)) ?_ N (E.1 9 2) _ 0 ⟨0, rfl, by omega, rfl, by rw [qs_si, qs_eq, upd_eq]; rfl, fun j hj => absurd hj (Nat.not_lt_zero _), rfl, fun q q1 q2 => by rw [qs_si, qs_ne q1], fun j hj => by rw [qs_si, qs_eq, upd_ne hj]⟩ (by omega)
  rintro self m U x ⟨i, rfl, hi, rfl, hm, hd, h2, hq, h0⟩ ih
  have hlen := dsF_len (P := ndB E) i
  have hU : HM lv E U := HM_0 hT (fun q q1 _ q2 _ _ => hq q q1 q2) (fun j j1 _ _ => h0 j j1)
  obtain ⟨a0, a1, a2, a3, a4, ax⟩ := hU.1
  refine ok_ck lv a1 (by omega) (by decide) ?_
  rw [a1, qi_cl (by omega), a4]
  by_cases e : i = E.1 9 2
  · refine ok_pos (by rw [e]; exact Int32.le_refl _) (ok_s ⟨hU, frQ_tr hfT ⟨h2, fun q q1 _ _ _ _ q6 _ _ => hq q q1 q6, fun j _ _ j3 _ _ => h0 j j3⟩, ?_, ?_⟩)
    · rw [hm, e]; rfl
    · intro j hj
      rw [e] at hd
      exact hd j hj
  · refine ok_neg (nI_ge (by omega) (by omega)) ?_
    have e12 : 12 + nI i = nI (12 + i) := nI_add 12 i
    rw [e12, qi_cl (by omega), hU.2.1 (12 + i) (by omega), wholeM hU.1 hv (by omega) (by have := hv.2.2 (12 + i) (by omega); omega), Option.bind_some, hm, qi_cl (by omega), nI_1]
    refine ok_ck (12 + i) rfl (by omega) (by decide) ?_
    by_cases z : E.2.2.2 (12 + i) = 2 ^ (E.1 17 i) - 1
    · rw [if_pos z]
      have hn : dsF (ndB E) (i + 1) = dsF (ndB E) i := by
        rw [dsF, if_neg]
        intro y
        have := y.1
        unfold ndB at this
        rw [z] at this
        simp at this
      exact ok_neg n10 (ih (E.1 9 2 - (i + 1)) _ _ (by omega) ⟨i + 1, rfl, by omega, rfl, by rw [hn]; exact hm, by rw [hn]; exact hd, h2, hq, h0⟩)
    · rw [if_neg z]
      refine ok_pos rfl ?_
      by_cases h5 : (dsF (ndB E) i).length = 5
      · have hn : dsF (ndB E) (i + 1) = dsF (ndB E) i := by rw [dsF, if_neg (by omega)]
        exact ok_pos (by rw [h5]; rfl) (ih (E.1 9 2 - (i + 1)) _ _ (by omega) ⟨i + 1, rfl, by omega, rfl, by rw [hn]; exact hm, by rw [hn]; exact hd, h2, hq, h0⟩)
      · have hn : dsF (ndB E) (i + 1) = dsF (ndB E) i ++ [i] := by
          rw [dsF, if_pos]
          refine ⟨?_, by omega⟩
          unfold ndB
          rw [beq_eq_false_iff_ne.mpr z]
          rfl
        refine ok_neg (fun y => h5 ((nI_eq (by omega) (by decide)).mp y)) (ok_ck _ rfl (by omega) (by decide) (ih (E.1 9 2 - (i + 1)) _ _ (by omega) ⟨i + 1, rfl, by omega, rfl, ?_, fun j hj => ?_, h2, fun q q1 q2 => ?_, fun j hj => ?_⟩))
        · rw [hn, qs_si, qs_eq, upd_eq, qs_si, qs_ne (by decide), hm, nI_1, List.length_append]
          rfl
        · rw [hn, List.length_append] at hj
          have hj : j < (dsF (ndB E) i).length + 1 := hj
          rw [hn, qs_si, qs_ne (by decide), qs_si, qs_eq]
          by_cases ej : j = (dsF (ndB E) i).length
          · rw [ej, upd_eq, gd_r]
          · rw [upd_ne ej, gd_l (by omega)]; exact hd j (by omega)
        · rw [qs_si, qs_ne q1, qs_si, qs_ne q2]; exact hq q q1 q2
        · rw [qs_si, qs_eq, upd_ne hj, qs_si, qs_ne (by decide)]; exact h0 j hj
def bgI (E : sE) (p i n : Nat) : Int32 := if fs (fun n => goE E p (duE E i) n) n 301 < n + 301 then nI (fs (fun n => goE E p (duE E i) n) n 301) else -1
def begM (E : sE) (p : Nat) (S : qv_St) : Prop := ∀ i, i < mD E → ∀ n, n ≤ 1310 → S.1 41 (1620 * i + n) = bgI E p i n
theorem sub_m1 (x : Int32) : x + (-1) = x - 1 := by grind
theorem fillsDueM {lv : Nat} {E : sE} {S : qv_St} {p : Nat} (h : qM lv E S) (hp1 : E.2.2.2 1 = p) (hp : p < E.1 9 1) : okk (fX12_fillsDue S) (fun z => HM lv E z ∧ frQ S z ∧ dueM E z ∧ begM E p z) := by
  unfold fX12_fillsDue
  have hN5 := qN
  generalize qv_N = N at hN5 ⊢
  simp only [qj_e, qb_e]
  have hv := h.1
  have h5 := mD_le (E := E)
  have h6 := hv.1.2.2.1
  refine ok_bd (findsM h) ?_
  rintro T ⟨hT, hfT, hdT⟩
  refine ok_ck 1 rfl (by decide) (by decide) ?_
  rw [tc1, hT.2.1 1 (by decide), hp1]
  refine ok_bd (fillsM hT hv hp (m := 1620) (by decide)) ?_
  rintro V ⟨hV, hfV⟩
  have hHV := HM_frL hT hfV
  have hdV : dueM E V := ⟨by rw [hfV.2.2 60 (by decide)]; exact hdT.1, fun j hj => by rw [hfV.2.1 40 (by decide) (by decide) (by decide) (by decide)]; exact hdT.2 j hj⟩
  refine ok_lp2 (fun m U x => ∃ i, m = mD E - i ∧ i ≤ mD E ∧ x = nI i ∧ (∀ i', i' < i → ∀ n, n ≤ 1310 → U.1 41 (1620 * i' + n) = bgI E p i' n) ∧ HM lv E U ∧ frQ V U ∧ dueM E U ∧ U.1 38 = V.1 38) ?_ N (mD E) V 0 ⟨0, rfl, by omega, rfl, fun i' hi' => by omega, hHV, frQ_rf, hdV, rfl⟩ (by omega)
  rintro self m U x ⟨i, rfl, hi, rfl, hbg, hU, hfU, hdU, h38⟩ ih
  rw [hdU.1]
  by_cases e : i = mD E
  · exact ok_pos (by rw [e]; exact Int32.le_refl _) (ok_s ⟨hU, frQ_tr hfT (frQ_tr (frQ_L hfV) hfU), hdU, by rw [e] at hbg; exact hbg⟩)
  · have him : i < mD E := by omega
    have hdu := duE_lt him
    have hL := hv.1.2.2.2.2.2.2.2.2 _ hdu
    refine ok_neg (nI_ge (by omega) (by omega)) ?_
    rw [qi_cl (by omega), nI_1]
    refine ok_lp3 (fun m W x2 x3 => ∃ j, m = j ∧ j ≤ 1611 ∧ x3 = nI j - 1 ∧ x2 = (if fs (fun n => goE E p (duE E i) n) j (1611 - j) < 1611 then nI (fs (fun n => goE E p (duE E i) n) j (1611 - j)) else -1) ∧ (∀ i', i' < i → ∀ n, n ≤ 1310 → W.1 41 (1620 * i' + n) = bgI E p i' n) ∧ (∀ n, j ≤ n → n ≤ 1310 → W.1 41 (1620 * i + n) = bgI E p i n) ∧ HM lv E W ∧ frQ V W ∧ dueM E W ∧ W.1 38 = V.1 38) ?_ N 1611 U (-1) 1610 ⟨1611, rfl, by omega, by decide, rfl, hbg, fun n n1 n2 => by omega, hU, hfU, hdU, h38⟩ (by omega)
    rintro self2 m W x2 x3 ⟨j, rfl, hj, rfl, rfl, hbg1, hbg2, hW, hfW, hdW, hW38⟩ ih2
    cases m with
    | zero =>
      refine ok_pos (by decide) (ih (mD E - (i + 1)) _ _ (by omega) ⟨i + 1, rfl, by omega, rfl, fun i' hi' n hn => ?_, hW, hfW, hdW, hW38⟩)
      by_cases ei : i' = i
      · rw [ei]; exact hbg2 n (by omega) hn
      · exact hbg1 i' (by omega) n hn
    | succ k =>
      rw [nI_pred]
      refine ok_neg (nI_pos (by omega)) (ok_ck i rfl (by omega) (by decide) ?_)
      rw [hdW.2 i him]
      refine ok_cm (goodM hW hv hdu (n := k) (p := p) (by omega) (fun y hy => by rw [hW38]; exact hV (k + y) (by omega))) ?_
      rintro S6 r ⟨hr, hf6⟩
      have hr : r = _ := hr
      have hf6 : frB W S6 := hf6
      subst hr
      have hH6 := HM_fr hW hf6
      have e1620 : 1620 * nI i + nI k = nI (1620 * i + k) := by rw [show (1620 : Int32) = nI 1620 from rfl, pk_mul, nI_add]
      have e300 : nI k + 300 = nI (k + 300) := nI_add k 300
      rw [e1620, qi_cl (by omega), e300, sub_m1]
      obtain ⟨f1, f2, f3, f4⟩ := fs_spec (P := fun n => goE E p (duE E i) n) (1611 - k) k
      have fin : ∀ x2' t, x2' = (if fs (fun n => goE E p (duE E i) n) k (1611 - k) < 1611 then nI (fs (fun n => goE E p (duE E i) n) k (1611 - k)) else -1) → (k ≤ 1310 → t = bgI E p i k) → okk (qv_ck (nI (1620 * i + k)) 8100 (self2 (qv_si S6 41 (1620 * i + k) t) x2' (nI k - 1))) (fun z => HM lv E z ∧ frQ S z ∧ dueM E z ∧ begM E p z) := by
        intro x2' t hx ht
        refine ok_ck _ rfl (by omega) (by decide) ?_
        rw [qs_si]
        have hHn : HM lv E (qs S6 41 (upd (S6.1 41) (1620 * i + k) t)) := HM_0 hH6 (fun q _ _ _ q4 _ => qs_ne q4) (fun j _ _ _ => by rw [qs_ne (by decide)])
        have h41 : S6.1 41 = W.1 41 := hf6.2.1 41 (by decide) (by decide) (by decide)
        refine ih2 k _ _ _ (Nat.lt_succ_self k) ⟨k, rfl, by omega, rfl, hx, fun i' hi' n hn => ?_, fun n n1 n2 => ?_, hHn, frQ_tr hfW (frQ_tr (frQ_B hf6) ⟨rfl, fun q _ _ _ _ _ _ q7 _ => qs_ne q7, fun j _ _ _ _ _ => by rw [qs_ne (by decide)]⟩), ⟨?_, fun j hj => ?_⟩, ?_⟩
        · rw [qs_eq, upd_ne (by omega), h41]; exact hbg1 i' hi' n hn
        · rw [qs_eq]
          by_cases en : n = k
          · rw [en, upd_eq]; exact ht (by omega)
          · rw [upd_ne (by omega), h41]; exact hbg2 n (by omega) n2
        · rw [qs_ne (by decide), hf6.2.2 60 (by decide)]; exact hdW.1
        · rw [qs_ne (by decide), hf6.2.1 40 (by decide) (by decide) (by decide)]; exact hdW.2 j hj
        · rw [qs_ne (by decide), hf6.2.1 38 (by decide) (by decide) (by decide)]; exact hW38
      have hcut : k ≤ 1310 → (fs (fun n => goE E p (duE E i) n) k 301 < k + 301 ↔ fs (fun n => goE E p (duE E i) n) k (1611 - k) < k + 301) ∧ (fs (fun n => goE E p (duE E i) n) k 301 < k + 301 → fs (fun n => goE E p (duE E i) n) k 301 = fs (fun n => goE E p (duE E i) n) k (1611 - k)) := by
        intro hk
        have := fs_cut (P := fun n => goE E p (duE E i) n) (a := k) (b := k + 301) (c := 1611) (by omega)
        rw [show k + 301 - k = 301 by omega] at this
        exact this
      have step : ∀ x2', x2' = (if fs (fun n => goE E p (duE E i) n) k (1611 - k) < 1611 then nI (fs (fun n => goE E p (duE E i) n) k (1611 - k)) else -1) → okk (if x2' < 0 then qv_ck (nI (1620 * i + k)) 8100 (self2 (qv_si S6 41 (1620 * i + k) (-1)) x2' (nI k - 1)) else if nI (k + 300) < x2' then qv_ck (nI (1620 * i + k)) 8100 (self2 (qv_si S6 41 (1620 * i + k) (-1)) x2' (nI k - 1)) else qv_ck (nI (1620 * i + k)) 8100 (self2 (qv_si S6 41 (1620 * i + k) x2') x2' (nI k - 1))) (fun z => HM lv E z ∧ frQ S z ∧ dueM E z ∧ begM E p z) := by
        intro x2' hx
        by_cases hlt : fs (fun n => goE E p (duE E i) n) k (1611 - k) < 1611
        · rw [if_pos hlt] at hx
          refine ok_neg (by rw [hx]; exact nI_pos (by omega)) (ok_if (fun g => fin _ _ (by rw [if_pos hlt]; exact hx) (fun hk => ?_)) (fun g => fin _ _ (by rw [if_pos hlt]; exact hx) (fun hk => ?_)))
          · rw [hx] at g
            have g := (nI_ltI (by omega) (by omega)).mp g
            unfold bgI
            rw [if_neg (fun z => by have := (hcut hk).1.mp z; omega)]
          · have g : ¬ k + 300 < fs (fun n => goE E p (duE E i) n) k (1611 - k) := fun z => g (by rw [hx]; exact nI_lt z (by omega))
            unfold bgI
            have hz := (hcut hk).1.mpr (by omega)
            rw [if_pos hz, (hcut hk).2 hz, hx]
        · rw [if_neg hlt] at hx
          refine ok_pos (by rw [hx]; decide) (fin _ _ (by rw [if_neg hlt]; exact hx) (fun hk => ?_))
          unfold bgI
          rw [if_neg (fun z => by have := (hcut hk).1.mp z; omega)]
      have e11 : 1611 - k = (1611 - (k + 1)) + 1 := by omega
      cases hb : goE E p (duE E i) k with
      | false =>
        refine ok_pos rfl (step _ ?_)
        have hk0 : fs (fun n => goE E p (duE E i) n) k (1611 - k) = fs (fun n => goE E p (duE E i) n) (k + 1) (1611 - (k + 1)) := by
          rw [e11, fs, hb]; rfl
        rw [hk0]
      | true =>
        refine ok_neg (by decide) (step _ ?_)
        have hk0 : fs (fun n => goE E p (duE E i) n) k (1611 - k) = k := by
          rw [e11, fs, hb]; rfl
        rw [hk0, if_pos (by omega)]
theorem fivesM {n : Nat} (hn : n ≤ 6) : fX12_fives (nI n) = some (nI (5 ^ n)) := by
  have key : okk (fX12_fives (nI n)) (fun z => z = nI (5 ^ n)) := by
    unfold fX12_fives
    have hN5 := qN
    generalize qv_N = N at hN5 ⊢
    simp only [qb_e]
    refine ok_lp2 (fun m x1 x2 => ∃ i, m = n - i ∧ i ≤ n ∧ x2 = nI i ∧ x1 = nI (5 ^ i)) ?_ N n 1 0 ⟨0, rfl, by omega, rfl, rfl⟩ (by omega)
    rintro self m x1 x2 ⟨i, rfl, hi, rfl, rfl⟩ ih
    by_cases e : i = n
    · exact ok_pos (by rw [e]; exact Int32.le_refl _) (ok_s (by rw [e]))
    · have e5 : nI (5 ^ i) * 5 = nI (5 ^ (i + 1)) := by rw [show (5 : Int32) = nI 5 from rfl, pk_mul, Nat.pow_succ]
      rw [e5, nI_1]
      exact ok_neg (nI_ge (by omega) (by omega)) (ih (n - (i + 1)) _ _ (by omega) ⟨i + 1, rfl, by omega, rfl, rfl⟩)
  obtain ⟨r, h1, rfl⟩ := key
  exact h1
def pfI (o : Option (Nat × Nat)) : Int32 := match o with
  | none => -1
  | some q => nI q.2
theorem endByM {lv : Nat} {E : sE} {S : qv_St} {p way k : Nat} (hv : vE E) (h : mS lv E.1 E.2.1 S.1) (hd : dueM E S) (hb : begM E p S) (hk : k ≤ mD E) (hw : way < 5 ^ k) : fX12_endBy S (nI way) (nI k) = some (pfI (pf E p k way)) := by
  have h5 := mD_le (E := E)
  have h6 := hv.1.2.2.1
  have h55 : 5 ^ k ≤ 5 ^ 5 := Nat.pow_le_pow_right (by decide) (by omega)
  have key : okk (fX12_endBy S (nI way) (nI k)) (fun z => z = pfI (pf E p k way)) := by
    unfold fX12_endBy
    rw [fivesM (by omega), Option.bind_some]
    have hN5 := qN
    generalize qv_N = N at hN5 ⊢
    simp only [qb_e]
    refine ok_lp4 (fun m x3 x4 x5 x6 => ∃ j u e, m = k - j ∧ j ≤ k ∧ x6 = nI j ∧ x5 = nI (5 ^ (k - j)) ∧ x3 = nI u ∧ x4 = nI e ∧ pf E p j (way / 5 ^ (k - j)) = some (u, e)) ?_ N k 0 0 (nI (5 ^ k)) 0 ⟨0, 0, 0, rfl, by omega, rfl, rfl, rfl, rfl, rfl⟩ (by omega)
    rintro self m x3 x4 x5 x6 ⟨j, u, e, rfl, hj, rfl, rfl, rfl, rfl, hpf⟩ ih
    by_cases ej : j = k
    · refine ok_pos (by rw [ej]; exact Int32.le_refl _) (ok_s ?_)
      rw [ej, Nat.sub_self, Nat.pow_zero, Nat.div_one] at hpf
      rw [hpf]; rfl
    · obtain ⟨u1, u2, u3⟩ := pf_b hv _ _ _ hpf
      have u1 : u < 2 ^ (mD E) := u1
      have u2 : e ≤ 309 * j := u2
      have h32 : 2 ^ (mD E) ≤ 2 ^ 5 := Nat.pow_le_pow_right (by decide) h5
      have ekj : k - j = (k - (j + 1)) + 1 := by omega
      have hp0 : 0 < 5 ^ (k - (j + 1)) := Nat.pow_pos (by decide)
      have hple : 5 ^ (k - (j + 1)) ≤ 5 ^ 5 := Nat.pow_le_pow_right (by decide) (by omega)
      have ediv : nI (5 ^ (k - j)) / 5 = nI (5 ^ (k - (j + 1))) := by
        rw [ekj, show (5 : Int32) = nI 5 from rfl, pk_div (by rw [Nat.pow_succ]; omega) (by decide) (by decide), Nat.pow_succ, Nat.mul_div_cancel _ (by decide)]
      have hWle : way / 5 ^ (k - (j + 1)) ≤ way := Nat.div_le_self _ _
      have edg : nI way / nI (5 ^ (k - (j + 1))) - nI way / nI (5 ^ (k - (j + 1))) / 5 * 5 = nI (way / 5 ^ (k - (j + 1)) % 5) := by
        rw [pk_div (by omega) hp0 (by omega), show (5 : Int32) = nI 5 from rfl, pk_rem (by omega) (by decide) (by decide)]
      have eW : way / 5 ^ (k - (j + 1)) / 5 = way / 5 ^ (k - j) := by rw [Nat.div_div_eq_div_mul, ekj, Nat.pow_succ]
      refine ok_neg (nI_ge (by omega) (by omega)) (ok_nz (by decide) ?_)
      rw [ediv]
      refine ok_nz (nI_ne0 hp0 (by omega)) (ok_nz (by decide) ?_)
      rw [edg, hd.1, nI_1]
      have hps := pf_s (E := E) (p := p) (j := j) (w := way / 5 ^ (k - (j + 1))) (q := (u, e)) (by rw [eW]; exact hpf)
      generalize hi : way / 5 ^ (k - (j + 1)) % 5 = i at hps
      have hi5 : i < 5 := by rw [← hi]; exact Nat.mod_lt _ (by decide)
      have hnone : pf E p (j + 1) (way / 5 ^ (k - (j + 1))) = none → (-1 : Int32) = pfI (pf E p k way) := by
        intro hn
        have := pf_no (E := E) (p := p) (k - (j + 1)) (j + 1) _ way rfl hn
        rw [show j + 1 + (k - (j + 1)) = k by omega] at this
        rw [this]; rfl
      by_cases him : i < mD E
      · refine ok_neg (nI_ge him (by omega)) ?_
        rw [bit_get (by omega) (by omega), sh1 i (by omega), nI_or]
        by_cases hin : inS u i = true
        · refine ok_pos (by unfold inS at hin; rw [beq_iff_eq] at hin; rw [hin]; rfl) (ok_s (hnone ?_))
          rw [hps, if_neg (fun z => by have : inS u i = false := z.2; rw [hin] at this; cases this)]
        · have hin : inS u i = false := by simpa using hin
          have hz : ¬ u / 2 ^ i % 2 = 1 := fun z => by unfold inS at hin; rw [z] at hin; cases hin
          refine ok_neg (fun z => hz ((nI_eq (by omega) (by decide)).mp z)) ?_
          have hdu := duE_lt him
          have hL := hv.1.2.2.2.2.2.2.2.2 _ hdu
          have e1620 : 1620 * nI i + nI e = nI (1620 * i + e) := by rw [show (1620 : Int32) = nI 1620 from rfl, pk_mul, nI_add]
          rw [e1620, qi_cl (by omega), hb i him e (by omega), qi_cl (by omega), hd.2 i him, longM h hv hdu, Option.bind_some]
          refine ok_ck (1620 * i + e) rfl (by omega) (by decide) ?_
          unfold bgI
          obtain ⟨f1, f2, f3, f4⟩ := fs_spec (P := fun n => goE E p (duE E i) n) 301 e
          by_cases hlt : fs (fun n => goE E p (duE E i) n) e 301 < e + 301
          · rw [if_pos hlt]
            refine ok_pos (nI_pos' (by omega)) (ok_ck i rfl (by omega) (by decide) ?_)
            rw [nI_add]
            refine ih (k - (j + 1)) _ _ _ _ (by omega) ⟨j + 1, _, _, rfl, by omega, rfl, rfl, rfl, rfl, ?_⟩
            rw [hps, if_pos ⟨him, hin⟩]
            show (nxE E p i e).map _ = _
            unfold nxE
            rw [if_pos hlt]
            rfl
          · rw [if_neg hlt]
            refine ok_neg (by decide) (ok_s (hnone ?_))
            rw [hps, if_pos ⟨him, hin⟩]
            show (nxE E p i e).map _ = _
            unfold nxE
            rw [if_neg hlt]
            rfl
      · refine ok_pos (nI_le (by omega) (by omega)) (ok_s (hnone ?_))
        rw [hps, if_neg (fun z => him z.1)]
  obtain ⟨r, h1, rfl⟩ := key
  exact h1
theorem fillsOrderM {lv : Nat} {E : sE} {S : qv_St} {p : Nat} (h : qM lv E S) (hp1 : E.2.2.2 1 = p) (hp : p < E.1 9 1) : okk (fX12_fillsOrder S) (fun z => frQ S z ∧ dueM E z ∧ mS lv E.1 E.2.1 z.1 ∧ (match bO E p (5 ^ (mD E)) with | none => z.1 0 63 = -1 | some q => z.1 0 63 = nI q.1 ∧ z.1 0 62 = nI q.2)) := by
  unfold fX12_fillsOrder
  have hN5 := qN
  generalize qv_N = N at hN5 ⊢
  simp only [qj_e, qb_e]
  have hv := h.1
  have h5 := mD_le (E := E)
  have h55 : 5 ^ (mD E) ≤ 5 ^ 5 := Nat.pow_le_pow_right (by decide) h5
  refine ok_bd (fillsDueM h hp1 hp) ?_
  rintro T ⟨hT, hfT, hdT, hbT⟩
  refine ok_lp2 (fun m (U : qv_St) x => ∃ i, m = 5 ^ (mD E) - i ∧ i ≤ 5 ^ (mD E) ∧ x = nI i ∧ (match bO E p i with | none => U.1 0 63 = -1 | some q => U.1 0 63 = nI q.1 ∧ U.1 0 62 = nI q.2) ∧ U.2 = T.2 ∧ (∀ q, q ≠ 0 → U.1 q = T.1 q) ∧ (∀ j, j ≠ 62 → j ≠ 63 → U.1 0 j = T.1 0 j)) ?_ N (5 ^ (mD E)) _ 0 ⟨0, rfl, Nat.zero_le _, rfl, (by show (qv_si T 0 63 (-1)).1 0 63 = -1; rw [qs_si, qs_eq, upd_eq]), rfl, fun q hq => by rw [qs_si, qs_ne hq], fun j _ hj => by rw [qs_si, qs_eq, upd_ne hj]⟩ (by omega)
  rintro self m U x ⟨i, rfl, hi, rfl, hbo, h2, hq, h0⟩ ih
  have hU : HM lv E U := HM_0 hT (fun q q1 _ _ _ _ => hq q q1) (fun j _ j2 j3 => h0 j j2 j3)
  have hdU : dueM E U := ⟨by rw [h0 60 (by decide) (by decide)]; exact hdT.1, fun j hj => by rw [hq 40 (by decide)]; exact hdT.2 j hj⟩
  have hbU : begM E p U := fun i hi n hn => by rw [hq 41 (by decide)]; exact hbT i hi n hn
  rw [hdU.1, fivesM (by omega), Option.bind_some]
  by_cases e : i = 5 ^ (mD E)
  · refine ok_pos (by rw [e]; exact Int32.le_refl _) (ok_s ⟨frQ_tr hfT ⟨h2, fun q q1 _ _ _ _ _ _ _ => hq q q1, fun j _ _ _ j4 j5 => h0 j j4 j5⟩, hdU, hU.1, ?_⟩)
    rw [← e]; exact hbo
  · refine ok_neg (nI_ge (by omega) (by omega)) ?_
    rw [endByM hv hU.1 hdU hbU (Nat.le_refl _) (by omega), Option.bind_some, nI_1]
    have hlt1 : 5 ^ (mD E) - (i + 1) < 5 ^ (mD E) - i := by omega
    have hle1 : i + 1 ≤ 5 ^ (mD E) := by omega
    have same : bO E p (i + 1) = bO E p i → okk (self U (nI (i + 1))) (fun z => frQ S z ∧ dueM E z ∧ mS lv E.1 E.2.1 z.1 ∧ (match bO E p (5 ^ (mD E)) with | none => z.1 0 63 = -1 | some q => z.1 0 63 = nI q.1 ∧ z.1 0 62 = nI q.2)) := by
      intro hs
      exact ih _ _ _ hlt1 ⟨i + 1, rfl, hle1, rfl, by rw [hs]; exact hbo, h2, hq, h0⟩
    cases hpf : pf E p (mD E) i with
    | none =>
      refine ok_pos (by decide) (same ?_)
      rw [bO, hpf]
    | some r =>
      have hrb := pf_b hv _ _ _ hpf
      have hr2 : r.2 ≤ 309 * 5 := Nat.le_trans hrb.2.1 (Nat.mul_le_mul_left _ h5)
      have new : bO E p (i + 1) = some (i, r.2) → okk (self (qv_si (qv_si U 0 62 (nI r.2)) 0 63 (nI i)) (nI (i + 1))) (fun z => frQ S z ∧ dueM E z ∧ mS lv E.1 E.2.1 z.1 ∧ (match bO E p (5 ^ (mD E)) with | none => z.1 0 63 = -1 | some q => z.1 0 63 = nI q.1 ∧ z.1 0 62 = nI q.2)) := by
        intro hs
        refine ih _ _ _ hlt1 ⟨i + 1, rfl, hle1, rfl, ?_, h2, fun q q1 => ?_, fun j j1 j2 => ?_⟩
        · rw [hs]
          show (qv_si (qv_si U 0 62 (nI r.2)) 0 63 (nI i)).1 0 63 = nI i ∧ (qv_si (qv_si U 0 62 (nI r.2)) 0 63 (nI i)).1 0 62 = nI r.2
          rw [qs_si, qs_eq, upd_eq, upd_ne (by decide), qs_si, qs_eq, upd_eq]
          exact ⟨rfl, rfl⟩
        · rw [qs_si, qs_ne q1, qs_si, qs_ne q1]; exact hq q q1
        · rw [qs_si, qs_eq, upd_ne j2, qs_si, qs_eq, upd_ne j1]; exact h0 j j1 j2
      refine ok_neg (show ¬ nI r.2 < 0 from nI_pos (by omega)) ?_
      show okk (if U.1 0 63 < 0 then self (qv_si (qv_si U 0 62 (nI r.2)) 0 63 (nI i)) (nI (i + 1)) else if nI r.2 < U.1 0 62 then self (qv_si (qv_si U 0 62 (nI r.2)) 0 63 (nI i)) (nI (i + 1)) else self U (nI (i + 1))) _
      have hbs : bO E p (i + 1) = match bO E p i with | none => some (i, r.2) | some q => if r.2 < q.2 then some (i, r.2) else some q := by
        rw [bO, hpf]
        rfl
      rcases bO_eM hv (p := p) i with ⟨g1, g2⟩ | ⟨q, g1, g2, g3, g4, _⟩
      · rw [g1] at hbo hbs
        have hbo : U.1 0 63 = -1 := hbo
        exact ok_pos (by rw [hbo]; decide) (new hbs)
      · rw [g1] at hbo hbs
        have hbo : U.1 0 63 = nI q.1 ∧ U.1 0 62 = nI q.2 := hbo
        have hbs : bO E p (i + 1) = if r.2 < q.2 then some (i, r.2) else some q := hbs
        refine ok_neg (by rw [hbo.1]; exact nI_pos (by omega)) ?_
        rw [hbo.2]
        refine ok_if (fun g => new ?_) (fun g => same ?_)
        · have g := (nI_ltI (by omega) (by omega)).mp g
          rw [hbs, if_pos g]
        · have g : ¬ r.2 < q.2 := fun z => g (nI_lt z (by omega))
          rw [hbs, if_neg g, g1]
theorem frE_PL {E : sE} {S T : qv_St} (h : PL E S) (f : frD S T) : PL E T := PL_fr h (f.2 263 (by decide) (by decide) (by decide) (by decide)) (f.2 264 (by decide) (by decide) (by decide) (by decide))
/-- gather, face, visit -/
theorem planC {E : sE} {S : qv_St} {p : Nat} (hp1 : E.2.2.2 1 = p) (hp : p < E.1 9 1) (h : qC E S) (hPL : PL E S) (hen : ∀ c, c < 32 → S.1 266 c = if c = 0 then 0 else nI 1000000) : okk ((fX7_face S (S.1 31 1)).bind fun S_2 => fX3_visit 6 S_2 0 0 0) (fun z => SV E p z ∧ PL E z ∧ VI E p z 0 (fun k => 5 ^ k) ∧ z.1 266 0 = 0 ∧ frE S z) := by
  have hv := h.1
  have h5 := mD_le (E := E)
  have h32 : 2 ^ (mD E) ≤ 2 ^ 5 := Nat.pow_le_pow_right (by decide) h5
  rw [h.2.1.2.1.2.1, hp1]
  obtain ⟨T, hT0, ⟨hT, hT2, hT3, hT4, hT5⟩⟩ := faceC hv h.2.1 hp (fun g => by
    rcases h.2.2 with g2 | ⟨p2, g2⟩
    · rw [g2] at g
      exact absurd (g ▸ nI_pos (n := p) (by have := hv.1.2.1; omega)) (by decide)
    · have : p2 = p := (nI_eq (by have := g2.2.1; have := hv.1.2.1; omega) (by have := hv.1.2.1; omega)).mp (g2.1.symm.trans g)
      subst this
      exact ⟨hv, h.2.1, g2⟩)
  rw [hT0, Option.bind_some]
  have hPT : PL E T := PL_fr hPL (hT4 263 (by decide)) (hT4 264 (by decide))
  have hVI : VI E p T 0 (fun k => 0 * 5 ^ (k - 0)) := by
    refine ⟨fun c c1 c2 => ?_, fun _ q hq => ?_⟩
    · have hc0 : c ≠ 0 := fun z => by rw [z] at c2; exact absurd c2 (by decide)
      rw [hT4 266 (by decide), hen c (by omega), if_neg hc0]
      show nI 1000000 = nI (eM E p (cnt c) (0 * 5 ^ (cnt c - 0)) c)
      rw [Nat.zero_mul]
      rfl
    · have hq : bO E p (0 * 5 ^ (mD E - 0)) = some q := hq
      rw [Nat.zero_mul] at hq
      cases hq
  refine ok_mono (visitC hv (mD E) 0 0 0 0 6 T (by omega) (by omega) rfl hT hPT (fun j hj => by omega) hVI) ?_
  rintro z ⟨z1, z2, z3, z4, z5, z6, z7⟩
  refine ⟨z1, z2, VI_congr (fun k _ => ?_) z3, ?_, frE_tr ⟨hT2, fun q _ _ _ q4 => ?_⟩ z7⟩
  · show (0 + 1) * 5 ^ (k - 0) = 5 ^ k
    rw [Nat.zero_add, Nat.one_mul, Nat.sub_zero]
  · rw [z4 0 (Nat.two_pow_pos _) (by decide), hT4 266 (by decide), hen 0 (by decide), if_pos rfl]
  · rcases q4 with q4 | q4
    · exact hT3 q (by omega)
    · exact hT4 q (by omega)
theorem ends_all {E : sE} {p : Nat} {z : qv_St} (hv : vE E) (hV : VI E p z 0 (fun k => 5 ^ k)) (h0 : z.1 266 0 = 0) : (bO E p (5 ^ (mD E)) = none ∧ z.1 266 (2 ^ (mD E) - 1) = nI 1000000) ∨ ∃ q, bO E p (5 ^ (mD E)) = some q ∧ z.1 266 (2 ^ (mD E) - 1) = nI q.2 ∧ q.2 ≤ 1545 ∧ q.1 < 5 ^ (mD E) ∧ ∀ j, j < mD E → z.1 267 j = nI (duE E (q.1 / 5 ^ (mD E - 1 - j) % 5)) ∧ q.1 / 5 ^ (mD E - 1 - j) % 5 < mD E := by
  have h5 := mD_le (E := E)
  by_cases hm : mD E = 0
  · refine Or.inr ⟨(0, 0), ?_, ?_, by decide, Nat.pow_pos (by decide), fun j hj => by omega⟩
    · rw [hm]
      show bO E p (0 + 1) = _
      rw [bO, hm]
      rfl
    · rw [hm]; exact h0
  · have hc := cnt_all _ h5
    have hpos : 0 < 2 ^ (mD E) := Nat.two_pow_pos _
    have h1 := hV.1 (2 ^ (mD E) - 1) (by omega) (by omega)
    rw [hc] at h1
    have h1 : z.1 266 (2 ^ (mD E) - 1) = nI (eM E p (mD E) (5 ^ (mD E)) (2 ^ (mD E) - 1)) := h1
    rcases bO_eM hv (p := p) (5 ^ (mD E)) with ⟨g1, g2⟩ | ⟨q, g1, g2, g3, g4, g5⟩
    · exact Or.inl ⟨g1, by rw [h1, g2]⟩
    · refine Or.inr ⟨q, g1, by rw [h1, g2], g3, g4, fun j hj => ⟨hV.2 (by omega) q g1 j hj, ?_⟩⟩
      cases hd : decide (q.1 / 5 ^ (mD E - 1 - j) % 5 < mD E) with
      | true => exact of_decide_eq_true hd
      | false =>
        exfalso
        have hd := of_decide_eq_false hd
        have hnone : pf E p (j + 1) (q.1 / 5 ^ (mD E - 1 - j)) = none := by
          cases hp : pf E p j (q.1 / 5 ^ (mD E - 1 - j) / 5) with
          | none => exact pf_n hp
          | some r => rw [pf_s hp, if_neg (fun z => hd z.1)]
        have := pf_no (E := E) (p := p) (mD E - 1 - j) (j + 1) _ q.1 rfl hnone
        rw [show j + 1 + (mD E - 1 - j) = mD E by omega] at this
        rw [this] at g5
        cases g5
theorem bind_assoc3 {α β γ : Type} {o : Option α} {f : α → Option β} {g : β → Option γ} : (o.bind fun x => (f x).bind g) = (o.bind f).bind g := by cases o <;> rfl
theorem call_order {E : sE} {lv : Nat} {S1 S2 : qv_St} (hw : wE E) (h1 : qC E S1) (h2 : qM lv E S2) (a : Int32) : ask2 E S1 S2 (fX11_order S1 a) (fX12_order S2 a) := by
  unfold fX11_order fX12_order
  have hv := h1.1
  have h5 := mD_le (E := E)
  have h32 : 2 ^ (mD E) ≤ 2 ^ 5 := Nat.pow_le_pow_right (by decide) h5
  have h55 : 5 ^ (mD E) ≤ 5 ^ 5 := Nat.pow_le_pow_right (by decide) h5
  have hpos : 0 < 2 ^ (mD E) := Nat.two_pow_pos _
  obtain ⟨T1, eT1, hT1, hf1, hP1, hen⟩ := gatherC h1
  obtain ⟨T2, eT2, hT2, hf2, hd2⟩ := findsM h2
  have hq2 := qM_fr h2 hf2
  rw [eT1, eT2, Option.bind_some, Option.bind_some, hP1.1, hd2.1, inM, Option.bind_some]
  have no : ∀ v, ask2 E S1 S2 (some (T1, v)) (some (T2, v)) := fun v => ⟨T1, T2, v, rfl, rfl, hT1, hf1, hf2⟩
  have hcase : (a < -1 ∨ (¬ a < -1 ∧ ¬ a < nI (mD E))) ∧ wI a (-1) (nI (mD E) - 1) = 0 ∨ (¬ a < -1 ∧ a < nI (mD E) ∧ wI a (-1) (nI (mD E) - 1) = 1 ∧ (a = -1 ∨ ∃ k, k < mD E ∧ a = nI k)) := by
    unfold wI
    by_cases g : a < -1
    · rw [if_pos g]; exact Or.inl ⟨Or.inl g, rfl⟩
    · rw [if_neg g]
      have c1 : Int32.toInt (-1) = -1 := by decide
      by_cases g0 : a < 0
      · have e : a = -1 := by
          apply Int32.toInt_inj.mp
          rw [Int32.lt_iff_toInt_lt] at g g0
          have c0 : Int32.toInt 0 = 0 := by decide
          rw [c1] at g
          rw [c0] at g0
          rw [c1]; omega
        subst e
        have g3 : ¬ nI (mD E) - 1 < -1 := by
          rw [Int32.lt_iff_toInt_lt, c1, show nI (mD E) - 1 = nI (mD E) - nI 1 from rfl, pk_sub_toInt (by omega) (by omega)]
          omega
        rw [if_neg g3]
        exact Or.inr ⟨g, Int32.lt_of_lt_of_le (by decide) (nI_pos' (by omega)), rfl, Or.inl rfl⟩
      · obtain ⟨k, hk, rfl⟩ := nI_of g0
        by_cases gk : k < mD E
        · have g3 : ¬ nI (mD E) - 1 < nI k := by
            rw [Int32.lt_iff_toInt_lt, show (1 : Int32) = nI 1 from rfl, pk_sub_toInt (by omega) (by omega), nI_toInt hk]
            omega
          rw [if_neg g3]
          exact Or.inr ⟨g, nI_lt gk (by omega), rfl, Or.inr ⟨k, gk, rfl⟩⟩
        · have g3 : nI (mD E) - 1 < nI k := by
            rw [Int32.lt_iff_toInt_lt, show (1 : Int32) = nI 1 from rfl, pk_sub_toInt (by omega) (by omega), nI_toInt hk]
            omega
          rw [if_pos g3]
          exact Or.inl ⟨Or.inr ⟨g, nI_nlt (by omega) hk⟩, rfl⟩
  rcases hcase with ⟨g, gw⟩ | ⟨g1, g2, gw, ga⟩
  · rw [gw, if_pos (show (0 : Int32) = 0 from rfl)]
    rcases g with g | ⟨g1, g2⟩
    · rw [if_pos g]; exact no _
    · rw [if_neg g1, if_neg g2]; exact no _
  · rw [gw, if_neg n10, if_neg g1, if_pos g2, plC hT1.2.1 hv, plM hq2.2.1 hv]
    by_cases hnp : E.1 9 1 = 0
    · rw [if_pos hnp, if_pos hnp]; exact no _
    rw [if_neg hnp, if_neg hnp]
    have hp : E.2.2.2 1 < E.1 9 1 := by rcases hw.2.2.1 with z | z; exact absurd z hnp; exact z
    obtain ⟨Z, eZ, hZ, hPZ, hVZ, h0Z, hfZ⟩ := planC (p := E.2.2.2 1) rfl hp hT1 hP1 hen
    rw [bind_assoc3, eZ, Option.bind_some]
    obtain ⟨Y, eY, hfY, hdY, hmY, hoY⟩ := fillsOrderM (p := E.2.2.2 1) hq2 rfl hp
    rw [eY, Option.bind_some]
    unfold fX3_all
    rw [hPZ.1, sh1m _ (by omega), Option.bind_some, Option.bind_some, qi_ck (by omega) (by decide), qi_ck (by omega) (by decide), qi_cl (by omega)]
    have fin : ∀ v, ask2 E S1 S2 (some (Z, v)) (some (Y, v)) := fun v => ⟨Z, Y, v, rfl, rfl, qC_SV hZ, frE_tr hf1 hfZ, frQ_tr hf2 hfY⟩
    rcases ends_all hv hVZ h0Z with ⟨k1, k2⟩ | ⟨q, k1, k2, k3, k4, k5⟩
    · rw [k1] at hoY
      have hoY : Y.1 0 63 = -1 := hoY
      rw [k2, hoY, if_pos (show nI 1000000 = 1000000 from rfl), if_neg (by decide)]
      exact fin _
    · rw [k1] at hoY
      obtain ⟨o1, o2⟩ : Y.1 0 63 = nI q.1 ∧ Y.1 0 62 = nI q.2 := hoY
      rw [k2, o1, o2, if_neg (fun z => by have := (nI_eq (b := 1000000) (by omega) (by decide)).mp z; omega), if_pos (nI_pos' (by omega))]
      rcases ga with rfl | ⟨k, hk, rfl⟩
      · rw [if_pos rfl, if_pos rfl]; exact fin _
      · have hne : ¬ nI k = -1 := fun z => absurd (z ▸ nI_pos (n := k) (by omega)) (by decide)
        have e1 : nI (mD E) - 1 - nI k = nI (mD E - 1 - k) := by
          rw [show (1 : Int32) = nI 1 from rfl, pk_sub (by omega), pk_sub (by omega)]
        have hp0 : 0 < 5 ^ (mD E - 1 - k) := Nat.pow_pos (by decide)
        have hple : 5 ^ (mD E - 1 - k) ≤ 5 ^ 5 := Nat.pow_le_pow_right (by decide) (by omega)
        have hqd : q.1 / 5 ^ (mD E - 1 - k) ≤ q.1 := Nat.div_le_self _ _
        obtain ⟨k6, k7⟩ := k5 k hk
        have edg : nI q.1 / nI (5 ^ (mD E - 1 - k)) - nI q.1 / nI (5 ^ (mD E - 1 - k)) / 5 * 5 = nI (q.1 / 5 ^ (mD E - 1 - k) % 5) := by
          rw [pk_div (by omega) hp0 (by omega), show (5 : Int32) = nI 5 from rfl, pk_rem (by omega) (by decide) (by decide)]
        rw [if_neg hne, if_neg hne, hdY.1, e1, fivesM (by omega), Option.bind_some, qv_nz, if_neg (nI_ne0 hp0 (by omega)), qv_nz, if_neg (by decide), edg, qi_ck (by omega) (by decide), qi_ck (by omega) (by decide), qi_cl (by omega), qi_cl (by omega), k6, hdY.2 _ k7]
        exact fin _
