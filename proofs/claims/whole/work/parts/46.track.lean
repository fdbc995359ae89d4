/-! the track: tell, forget, when; count -/
theorem noiseOfC {E : sE} {S : qv_St} {p t : Nat} (h : HC E S) (hv : vE E) (hp : p < E.1 9 1) (ht : t < 10000000) : okk (fX10_noiseOf S (nI p) (nI t)) (fun z => z.2 = nI (mo0 E p t) ∧ HC E z.1 ∧ frC S z.1) := by
  unfold fX10_noiseOf
  have hN5 := qN
  generalize qv_N = N at hN5 ⊢
  simp only [qb_e]
  have h8 := hv.1.1
  refine ok_lp3 (fun m T x3 x4 => ∃ i, m = E.1 9 0 - i ∧ i ≤ E.1 9 0 ∧ x4 = nI i ∧ x3 = nI (mxN (fun k => hrP E.1 E.2.1 E.2.2.1 0 k p t) i) ∧ HC E T ∧ frC S T) ?_ N (E.1 9 0) S 0 0 ⟨0, rfl, by omega, rfl, rfl, h, frC_rf⟩ (by omega)
  rintro self m T x3 x4 ⟨i, rfl, hi, rfl, rfl, hT, hf⟩ ih
  rw [hT.1.1]
  by_cases e : i = E.1 9 0
  · exact ok_pos (by rw [e]; exact Int32.le_refl _) (ok_s ⟨by rw [e]; rfl, hT, hf⟩)
  · refine ok_neg (nI_ge (by omega) (by omega)) ?_
    refine ok_cm (ageC2 (pd := 0) hT hv (k := i) (by omega) ht (by decide)) ?_
    rintro S5 r ⟨hr, hC5, hf5⟩
    have hr : r = _ := hr
    have hC5 : HC E S5 := hC5
    have hf5 : frC T S5 := hf5
    subst hr
    refine ok_cm (heardC hC5 hv (k := i) (by omega) hp (fun a ha => agE_lt hv (by omega) ha)) ?_
    rintro S6 r ⟨hr, hC6, hf6⟩
    have hr : r = nI (hrP E.1 E.2.1 E.2.2.1 0 i p t) := hr
    have hC6 : HC E S6 := hC6
    have hf6 : frC S5 S6 := hf6
    subst hr
    have hh : hrP E.1 E.2.1 E.2.2.1 0 i p t ≤ 99 := hrA_le
    have hm : mxN (fun k => hrP E.1 E.2.1 E.2.2.1 0 k p t) i ≤ 99 := mxN_le _ (fun _ _ => hrA_le)
    rw [nI_1, mx_nI (by omega) (by omega)]
    exact ih (E.1 9 0 - (i + 1)) _ _ _ (by omega) ⟨i + 1, rfl, by omega, rfl, rfl, hC6, frC_tr hf (frC_tr hf5 hf6)⟩
theorem mo0_le {E : sE} {p t : Nat} : mo0 E p t ≤ 99 := mxN_le _ (fun _ _ => hrA_le)
theorem fs_ext {P : Nat → Bool} {n : Nat} : fs P 0 (n + 1) = if fs P 0 n = n then (if P n = true then n else n + 1) else fs P 0 n := by
  obtain ⟨g1, g2, g3, g4⟩ := fs_spec (P := P) n 0
  by_cases h : fs P 0 n = n
  · rw [if_pos h]
    by_cases hp : P n = true
    · rw [if_pos hp]
      exact fs_uniq (by omega) (by omega) (fun k _ hk => g3 k (by omega) (by omega)) (fun _ => hp)
    · rw [if_neg hp]
      refine fs_uniq (by omega) (by omega) (fun k _ hk => ?_) (fun h => by omega)
      by_cases e : k = n
      · rw [e]; simpa using hp
      · exact g3 k (by omega) (by omega)
  · rw [if_neg h]
    exact fs_uniq (by omega) (by omega) g3 (fun _ => g4 (by omega))
theorem rel_tell {i : Nat} {S1 S2 : qv_St} (a b c : Int32) (hi : i + 6 ≤ 3072) (hr : Rel i S1 S2) : ∃ (S1' : qv_St) (S2' : qv_St) (r : Int32), fX11_tell S1 a b c = some (S1', r) ∧ fX12_tell S2 a b c = some (S2', r) ∧ Rel (i + 6) S1' S2' := by
  obtain ⟨E, lv, n, h, sl, tn, tp, ts, tz, r⟩ := hr
  have same : Rel (i + 6) S1 S2 := ⟨E, lv, n, h, sl, tn, tp, ts, tz, RB_mono (by omega) r⟩
  have h1 := r.2.1.1
  have h2 := r.2.2.1.1
  have hv := h1.1
  have htn := r.1.2.2.2.1
  have k1 := r.2.1.2.2.2
  have k2 := r.2.2.1.2.2.2.1
  unfold fX11_tell fX12_tell
  simp only [qb_e]
  have no : ∀ {x : Int32}, (S2.1 0 65 = 20 → True) → x = -1 → ∃ (S1' : qv_St) (S2' : qv_St) (r : Int32), some (S1, (-1 : Int32)) = some (S1', r) ∧ some (S2, (-1 : Int32)) = some (S2', r) ∧ Rel (i + 6) S1' S2' := fun _ _ => ⟨S1, S2, -1, rfl, rfl, same⟩
  rw [k1.1, k2.1]
  by_cases e20 : tn = 20
  · have e21 : ¬ nI tn < 20 := by rw [e20]; decide
    rw [if_pos (show nI tn = 20 by rw [e20]; rfl), if_neg e21]
    rcases plI (x := a) h1 h2 with ⟨e1, e2⟩ | ⟨p, hp, rfl, e1, e2⟩
    · rw [e1, b0, if_pos rfl]; exact no (x := -1) (fun _ => trivial) rfl
    rw [e1, b1, if_neg n10]
    rcases rgI b 0 99 0 99 rfl rfl (by decide) (by decide) with ⟨e1, e2⟩ | ⟨w, _, hw, rfl, e1, e2⟩
    · rw [e1, b0, if_pos rfl]; exact no (x := -1) (fun _ => trivial) rfl
    rw [e1, b1, if_neg n10]
    rcases rgI c 0 99 0 99 rfl rfl (by decide) (by decide) with ⟨e1, e2⟩ | ⟨z, _, hz, rfl, e1, e2⟩
    · rw [e1, b0, if_pos rfl]; exact no (x := -1) (fun _ => trivial) rfl
    rw [e1, b1, if_neg n10]
    exact no (x := -1) (fun _ => trivial) rfl
  rw [if_neg (show ¬ nI tn = 20 from fun z => e20 ((nI_eq (b := 20) (by omega) (by decide)).mp z)), if_pos (show nI tn < 20 from nI_lt (b := 20) (by omega) (by decide))]
  rcases plI (x := a) h1 h2 with ⟨e1, e2⟩ | ⟨p, hp, rfl, e1, e2⟩
  · rw [e1, e2, b0, b0, if_pos rfl, if_pos rfl]; exact no (x := -1) (fun _ => trivial) rfl
  rw [e1, e2, b1, b1, if_neg n10, if_neg n10]
  rcases rgI b 0 99 0 99 rfl rfl (by decide) (by decide) with ⟨e1, e2⟩ | ⟨w, _, hw, rfl, e1, e2⟩
  · rw [e1, e2, b0, b0, if_pos rfl, if_pos rfl]; exact no (x := -1) (fun _ => trivial) rfl
  rw [e1, e2, b1, b1, if_neg n10, if_neg n10]
  rcases rgI c 0 99 0 99 rfl rfl (by decide) (by decide) with ⟨e1, e2⟩ | ⟨z, _, hz, rfl, e1, e2⟩
  · rw [e1, e2, b0, b0, if_pos rfl, if_pos rfl]; exact no (x := -1) (fun _ => trivial) rfl
  rw [e1, e2, b1, b1, if_neg n10, if_neg n10]
  generalize htp : (fun j => if j = tn then p else tp j) = tp'
  generalize hts : (fun j => if j = tn then w else ts j) = ts'
  generalize htz : (fun j => if j = tn then z else tz j) = tz'
  have ep : ∀ j, tp' j = if j = tn then p else tp j := fun j => by rw [← htp]
  have es : ∀ j, ts' j = if j = tn then w else ts j := fun j => by rw [← hts]
  have ez : ∀ j, tz' j = if j = tn then z else tz j := fun j => by rw [← htz]
  have hfs : ∀ b, fs (fun j => !toS E tp' ts' tz' b j) 0 tn = fs (fun j => !toS E tp ts tz b j) 0 tn := fun b => fs_congr _ _ (fun k _ hk => by
    unfold toS
    rw [ep, es, ez, if_neg (by omega), if_neg (by omega), if_neg (by omega)])
  have hnew : ∀ b, toS E tp' ts' tz' b tn = (mo0 E p (b + w) == z) := fun b => by
    unfold toS
    rw [ep, es, ez, if_pos rfl, if_pos rfl, if_pos rfl]
  -- the class
  have cls : okk (fX10_add S1 (nI p) (nI w) (nI z)) (fun y => HC E y ∧ y.1 268 3 = nI (tn + 1) ∧ (∀ b, b < 1000 → y.1 269 b = nI (fs (fun j => !toS E tp' ts' tz' b j) 0 (tn + 1))) ∧ y.2 = S1.2 ∧ ∃ Y, frC S1 Y ∧ ∀ q, q ≠ 268 → q ≠ 269 → y.1 q = Y.1 q) := by
    unfold fX10_add
    have hN5 := qN
    generalize qv_N = N at hN5 ⊢
    simp only [qj_e, qb_e]
    refine ok_lp2 (fun m T x => ∃ i, m = 1000 - i ∧ i ≤ 1000 ∧ x = nI i ∧ HC E T ∧ T.1 268 = S1.1 268 ∧ (∀ b, b < i → T.1 269 b = nI (fs (fun j => !toS E tp' ts' tz' b j) 0 (tn + 1))) ∧ (∀ b, i ≤ b → T.1 269 b = S1.1 269 b) ∧ T.2 = S1.2 ∧ ∃ Y, frC S1 Y ∧ ∀ q, q ≠ 269 → T.1 q = Y.1 q) ?_ N 1000 S1 0 ⟨0, rfl, by omega, rfl, h1.2.1, rfl, fun b hb => by omega, fun _ _ => rfl, rfl, S1, frC_rf, fun _ _ => rfl⟩ (by omega)
    rintro self m T x ⟨i, rfl, hi, rfl, hT, t1, t2, t3, t4, Y, t5, t6⟩ ih
    by_cases e : i = 1000
    · refine ok_pos (by rw [e]; decide) (ok_s ⟨HC_keep hT (fun q hq => by rw [qs_si, qs_ne (by omega)]), ?_, fun b hb => ?_, t4, Y, t5, fun q q1 q2 => ?_⟩)
      · rw [qs_si, qs_eq, upd_eq, t1, k1.1, nI_1]
      · rw [qs_si, qs_ne (by decide)]
        exact t2 b (by omega)
      · rw [qs_si, qs_ne q1]; exact t6 q q2
    · have t3i := t3 i (Nat.le_refl _)
      rw [k1.2 i (by omega)] at t3i
      obtain ⟨g1, g2, g3, g4⟩ := fs_spec (P := fun j => !toS E tp ts tz i j) tn 0
      have hext := fs_ext (P := fun j => !toS E tp' ts' tz' i j) (n := tn)
      rw [hfs i] at hext
      have hext : fs (fun j => !toS E tp' ts' tz' i j) 0 (tn + 1) = if fs (fun j => !toS E tp ts tz i j) 0 tn = tn then (if (!toS E tp' ts' tz' i tn) = true then tn else tn + 1) else fs (fun j => !toS E tp ts tz i j) 0 tn := hext
      rw [hnew i] at hext
      refine ok_neg (show ¬ (1000 : Int32) ≤ nI i from nI_ge (b := 1000) (by omega) (by decide)) (ok_ck i rfl (by omega) (by decide) ?_)
      rw [qi_cl (by omega), t3i, t1, k1.1, nI_1, nI_add]
      refine ok_if (fun g => ?_) (fun g => ?_)
      · have g : fs (fun j => !toS E tp ts tz i j) 0 tn = tn := (nI_eq (by omega) (by omega)).mp g
        rw [if_pos g] at hext
        refine ok_cm (noiseOfC hT hv hp (t := i + w) (by omega)) ?_
        rintro S5 v ⟨hvv, hC5, hf5⟩
        have hvv : v = nI (mo0 E p (i + w)) := hvv
        have hC5 : HC E S5 := hC5
        have hf5 : frC T S5 := hf5
        subst hvv
        have hml : mo0 E p (i + w) ≤ 99 := mo0_le
        have s269 : S5.1 269 = T.1 269 := hf5.2 269 (by decide) (by decide) (by decide) (by decide)
        have s268 : S5.1 268 = T.1 268 := hf5.2 268 (by decide) (by decide) (by decide) (by decide)
        have hY5 : ∃ Y', frC S1 Y' ∧ ∀ q, q ≠ 269 → S5.1 q = Y'.1 q := ⟨(fun q => if q = 269 then Y.1 269 else S5.1 q, S5.2), ⟨by show S5.2 = S1.2; rw [hf5.1, t4], fun q q1 q2 q3 q4 => by
          show (if q = 269 then Y.1 269 else S5.1 q) = S1.1 q
          by_cases eq : q = 269
          · rw [if_pos eq, eq]; exact t5.2 269 (by decide) (by decide) (by decide) (by decide)
          · rw [if_neg eq, hf5.2 q q1 q2 q3 q4, t6 q eq]; exact t5.2 q q1 q2 q3 q4⟩, fun q hq => by show S5.1 q = if q = 269 then Y.1 269 else S5.1 q; rw [if_neg hq]⟩
        refine ok_if (fun g2 => ?_) (fun g2 => ?_)
        · have g2 : mo0 E p (i + w) = z := (nI_eq (by omega) (by omega)).mp g2
          rw [g2, beq_self_eq_true] at hext
          have hext : fs (fun j => !toS E tp' ts' tz' i j) 0 (tn + 1) = tn + 1 := hext
          refine ok_ck i rfl (by omega) (by decide) (ok_ck i rfl (by omega) (by decide) ?_)
          rw [qs_si, s269, t3 i (Nat.le_refl _), k1.2 i (by omega), g, nI_1]
          obtain ⟨Y', y1, y2⟩ := hY5
          refine ih (1000 - (i + 1)) _ _ (by omega) ⟨i + 1, rfl, by omega, rfl, HC_keep hC5 (fun q hq => qs_ne (by omega)), by rw [qs_ne (by decide), s268]; exact t1, fun b hb => ?_, fun b hb => ?_, by show S5.2 = S1.2; rw [hf5.1, t4], Y', y1, fun q hq => by rw [qs_ne hq]; exact y2 q hq⟩
          · rw [qs_eq]
            by_cases eb : b = i
            · rw [eb, upd_eq, hext]
            · rw [upd_ne eb]; exact t2 b (by omega)
          · rw [qs_eq, upd_ne (by omega)]; exact t3 b (by omega)
        · have g2 : ¬ mo0 E p (i + w) = z := fun y => g2 (by rw [y])
          rw [beq_eq_false_iff_ne.mpr g2] at hext
          have hext : fs (fun j => !toS E tp' ts' tz' i j) 0 (tn + 1) = tn := hext
          obtain ⟨Y', y1, y2⟩ := hY5
          refine ih (1000 - (i + 1)) _ _ (by omega) ⟨i + 1, rfl, by omega, rfl, hC5, by rw [s268]; exact t1, fun b hb => ?_, fun b hb => ?_, by rw [hf5.1, t4], Y', y1, y2⟩
          · rw [s269]
            by_cases eb : b = i
            · rw [eb, hext, t3 i (Nat.le_refl _), k1.2 i (by omega), g]
            · exact t2 b (by omega)
          · rw [s269]; exact t3 b (by omega)
      · have g : ¬ fs (fun j => !toS E tp ts tz i j) 0 tn = tn := fun y => g (by rw [y])
        rw [if_neg g] at hext
        refine ih (1000 - (i + 1)) _ _ (by omega) ⟨i + 1, rfl, by omega, rfl, hT, t1, fun b hb => ?_, fun b hb => t3 b (by omega), t4, Y, t5, t6⟩
        by_cases eb : b = i
        · rw [eb, hext, t3 i (Nat.le_refl _), k1.2 i (by omega)]
        · exact t2 b (by omega)
  obtain ⟨Y, eY, y1, y2, y3, y4, W, y5, y6⟩ := cls
  have e1' : nI (tn + 1) - 1 = nI tn := nI_pred tn
  rw [eY, Option.bind_some, y2, e1', qi_ck (by omega) (by decide), qi_cl (by omega)]
  -- the reference
  generalize hA : qv_si S2 43 tn (nI p) = A
  have a0 : A.1 0 65 = nI tn := by rw [← hA, qs_si, qs_ne (by decide)]; exact k2.1
  rw [a0, qi_ck (by omega) (by decide), qi_cl (by omega)]
  generalize hB : qv_si A 44 tn (nI w) = B
  have bb0 : B.1 0 65 = nI tn := by rw [← hB, qs_si, qs_ne (by decide)]; exact a0
  rw [bb0, qi_ck (by omega) (by decide), qi_cl (by omega)]
  generalize hC : qv_si B 45 tn (nI z) = C
  have cc0 : C.1 0 65 = nI tn := by rw [← hC, qs_si, qs_ne (by decide)]; exact bb0
  rw [cc0, nI_1]
  generalize hD : qv_si C 0 65 (nI (tn + 1)) = D
  have d65 : D.1 0 65 = nI (tn + 1) := by rw [← hD, qs_si, qs_eq, upd_eq]
  have d0 : ∀ j, j ≠ 65 → D.1 0 j = S2.1 0 j := fun j hj => by rw [← hD, qs_si, qs_eq, upd_ne hj, ← hC, qs_si, qs_ne (by decide), ← hB, qs_si, qs_ne (by decide), ← hA, qs_si, qs_ne (by decide)]
  have d43 : D.1 43 = upd (S2.1 43) tn (nI p) := by rw [← hD, qs_si, qs_ne (by decide), ← hC, qs_si, qs_ne (by decide), ← hB, qs_si, qs_ne (by decide), ← hA, qs_si, qs_eq]
  have d44 : D.1 44 = upd (S2.1 44) tn (nI w) := by rw [← hD, qs_si, qs_ne (by decide), ← hC, qs_si, qs_ne (by decide), ← hB, qs_si, qs_eq, ← hA, qs_si, qs_ne (by decide)]
  have d45 : D.1 45 = upd (S2.1 45) tn (nI z) := by rw [← hD, qs_si, qs_ne (by decide), ← hC, qs_si, qs_eq, ← hB, qs_si, qs_ne (by decide), ← hA, qs_si, qs_ne (by decide)]
  have dq : ∀ q, q ≠ 0 → q ≠ 43 → q ≠ 44 → q ≠ 45 → D.1 q = S2.1 q := fun q q0 q1 q2 q3 => by rw [← hD, qs_si, qs_ne q0, ← hC, qs_si, qs_ne q3, ← hB, qs_si, qs_ne q2, ← hA, qs_si, qs_ne q1]
  have d2 : D.2 = S2.2 := by rw [← hD, ← hC, ← hB, ← hA]; rfl
  rw [d65, e1']
  obtain ⟨⟨r1, r2, r3, r4, r5⟩, ⟨c1, c2, c3, c4⟩, ⟨m1, m2, m3, m4, m5⟩, t, pp⟩ := r
  have gY : ∀ q, q ≠ 21 → q ≠ 25 → q ≠ 29 → (q < 255 ∨ 259 < q) → q ≠ 268 → q ≠ 269 → Y.1 q = S1.1 q := fun q q1 q2 q3 q4 q5 q6 => by rw [y6 q q5 q6]; exact y5.2 q q1 q2 q3 q4
  refine ⟨Y, D, _, rfl, rfl, E, lv, n, h, sl, tn + 1, tp', ts', tz', ⟨rV_mono r1 (by omega), fun j hj => rV_mono (r2 j hj) (by omega), fun s hs q hq => rV_mono (r3 s hs q hq) (by omega), by omega, fun j hj => ?_⟩, ⟨⟨hv, y1, ?_⟩, hC_G (fun q q1 q2 => gY q (by omega) (by omega) (by omega) (by omega) (by omega) (by omega)) c2, slC_G (by rw [gY 0 (by decide) (by decide) (by decide) (by omega) (by decide) (by decide)]) (fun q q1 q2 => gY q (by omega) (by omega) (by omega) (by omega) (by omega) (by omega)) c3, y2, y3⟩, ⟨⟨hv, mS_G (fun q q1 q2 => dq q (by omega) (by omega) (by omega) (by omega)) (d0 18 (by decide)) m1.2.1, fun k hk => by rw [dq 36 (by decide) (by decide) (by decide) (by decide)]; exact m1.2.2.1 k hk, m1.2.2.2⟩, hM_G (d0 57 (by decide)) (dq 39 (by decide) (by decide) (by decide) (by decide)) m2, slM_G (dq 46 (by decide) (by decide) (by decide) (by decide)) (dq 47 (by decide) (by decide) (by decide) (by decide)) m3, ⟨d65, fun j hj => ?_⟩, fun k hk => by rw [d2]; exact m5 k hk⟩, ?_, ?_⟩
  · rw [ep, es, ez]
    by_cases e : j = tn
    · rw [if_pos e, if_pos e, if_pos e]; exact ⟨hp, hw, hz⟩
    · rw [if_neg e, if_neg e, if_neg e]; exact r5 j (by omega)
  · rw [gY 260 (by decide) (by decide) (by decide) (by omega) (by decide) (by decide)]
    rcases c1.2.2 with y | ⟨p', y1', y2', y3', y4'⟩
    · exact Or.inl y
    · exact Or.inr ⟨p', by rw [gY 260 (by decide) (by decide) (by decide) (by omega) (by decide) (by decide)]; exact y1', y2', by rw [gY 261 (by decide) (by decide) (by decide) (by omega) (by decide) (by decide)]; exact y3', by rw [gY 262 (by decide) (by decide) (by decide) (by omega) (by decide) (by decide)]; exact y4'⟩
  · rw [d43, d44, d45, ep, es, ez]
    by_cases e : j = tn
    · rw [e, upd_eq, upd_eq, upd_eq, if_pos rfl, if_pos rfl, if_pos rfl]; exact ⟨rfl, rfl, rfl⟩
    · rw [upd_ne e, upd_ne e, upd_ne e, if_neg e, if_neg e, if_neg e]; exact m4.2 j (by omega)
  · exact rT_G (by rw [gY 1 (by decide) (by decide) (by decide) (by omega) (by decide) (by decide)]) (gY 2 (by decide) (by decide) (by decide) (by omega) (by decide) (by decide)) (d0 2 (by decide)) (dq 1 (by decide) (by decide) (by decide) (by decide)) t
  · rw [gY 7 (by decide) (by decide) (by decide) (by omega) (by decide) (by decide), d0 17 (by decide)]; exact pp
theorem rel_forget {i : Nat} {S1 S2 : qv_St} (hi : i + 6 ≤ 3072) (hr : Rel i S1 S2) : ∃ (S1' : qv_St) (S2' : qv_St) (r : Int32), fX11_forget S1 = some (S1', r) ∧ fX12_forget S2 = some (S2', r) ∧ Rel (i + 6) S1' S2' := by
  obtain ⟨E, lv, n, h, sl, tn, tp, ts, tz, r⟩ := hr
  have k1 := r.2.1.2.2.2
  have k2 := r.2.2.1.2.2.2.1
  unfold fX11_forget fX12_forget fX10_clear
  simp only [qb_e]
  rw [fill_eq (by decide), Option.bind_some, Option.bind_some, k1.1, k2.1]
  obtain ⟨⟨r1, r2, r3, r4, r5⟩, ⟨c1, c2, c3, c4⟩, ⟨m1, m2, m3, m4, m5⟩, t, pp⟩ := r
  have gY : ∀ q, q ≠ 268 → q ≠ 269 → (qs (qv_si S1 268 3 0) 269 (fun j => if j < 1000 then 0 else (qv_si S1 268 3 0).1 269 j)).1 q = S1.1 q := fun q q1 q2 => by rw [qs_ne q2, qs_si, qs_ne q1]
  have d0 : ∀ j, j ≠ 65 → (qv_si S2 0 65 0).1 0 j = S2.1 0 j := fun j hj => by rw [qs_si, qs_eq, upd_ne hj]
  have dq : ∀ q, q ≠ 0 → (qv_si S2 0 65 0).1 q = S2.1 q := fun q q0 => by rw [qs_si, qs_ne q0]
  refine ⟨_, _, _, rfl, rfl, E, lv, n, h, sl, 0, tp, ts, tz, ⟨rV_mono r1 (by omega), fun j hj => rV_mono (r2 j hj) (by omega), fun s hs q hq => rV_mono (r3 s hs q hq) (by omega), by omega, fun j hj => by omega⟩, ⟨⟨c1.1, HC_keep c1.2.1 (fun q hq => gY q (by omega) (by omega)), ?_⟩, hC_G (fun q q1 q2 => gY q (by omega) (by omega)) c2, slC_G (by rw [gY 0 (by decide) (by decide)]) (fun q q1 q2 => gY q (by omega) (by omega)) c3, ?_, fun b hb => ?_⟩, ⟨⟨m1.1, mS_G (fun q q1 q2 => dq q (by omega)) (d0 18 (by decide)) m1.2.1, fun k hk => by rw [dq 36 (by decide)]; exact m1.2.2.1 k hk, m1.2.2.2⟩, hM_G (d0 57 (by decide)) (dq 39 (by decide)) m2, slM_G (dq 46 (by decide)) (dq 47 (by decide)) m3, ⟨by rw [qs_si, qs_eq, upd_eq]; rfl, fun j hj => by omega⟩, m5⟩, ?_, ?_⟩
  · rw [gY 260 (by decide) (by decide)]
    rcases c1.2.2 with y | ⟨p', y1', y2', y3', y4'⟩
    · exact Or.inl y
    · exact Or.inr ⟨p', by rw [gY 260 (by decide) (by decide)]; exact y1', y2', by rw [gY 261 (by decide) (by decide)]; exact y3', by rw [gY 262 (by decide) (by decide)]; exact y4'⟩
  · rw [qs_ne (by decide), qs_si, qs_eq, upd_eq]; rfl
  · rw [qs_eq, if_pos hb]; rfl
  · exact rT_G (by rw [gY 1 (by decide) (by decide)]) (gY 2 (by decide) (by decide)) (d0 2 (by decide)) (dq 1 (by decide)) t
  · rw [gY 7 (by decide) (by decide), d0 17 (by decide)]; exact pp
/-! when -/
def zpE (E : sE) : sE := (E.1, E.2.1, E.2.2.1, fun j => if 4 ≤ j ∧ j < 12 then 0 else E.2.2.2 j)
theorem zpE_mo {E : sE} {p t : Nat} (h8 : E.1 9 0 ≤ 8) : moE (zpE E) p t = mo0 E p t := by
  unfold moE mo0
  refine mxN_congr _ (fun k hk => ?_)
  have hk : k < E.1 9 0 := hk
  unfold hrE
  show hrP E.1 E.2.1 E.2.2.1 (if 4 ≤ 4 + k ∧ 4 + k < 12 then 0 else E.2.2.2 (4 + k)) k p t = _
  rw [if_pos ⟨by omega, by omega⟩]
theorem zpE_v {E : sE} (h : vE E) : vE (zpE E) := by
  refine ⟨h.1, h.2.1, fun k hk => ?_⟩
  show (if 4 ≤ k ∧ k < 12 then 0 else E.2.2.2 k) ≤ 1000000
  by_cases z : 4 ≤ k ∧ k < 12
  · rw [if_pos z]; omega
  · rw [if_neg z]; exact h.2.2 k hk
def knB (E : sE) (tp ts tz : Nat → Nat) (k b : Nat) : Bool := decide (∀ j, j < k → toS E tp ts tz b j = true)
theorem isSoM {lv : Nat} {E : sE} {S : qv_St} {tn k b : Nat} {tp ts tz : Nat → Nat} (h : HM lv (zpE E) S) (hv : vE E) (hk : tkM tn tp ts tz S.1) (ht : ∀ j, j < tn → tp j < E.1 9 1 ∧ ts j ≤ 99 ∧ tz j ≤ 99) (htn : tn ≤ 20) (hkn : k ≤ tn) (hb : b < 1000) : okk (fX12_isSo S (nI k) (nI b)) (fun z => z.2 = (if knB E tp ts tz k b = true then 1 else 0) ∧ frB S z.1) := by
  unfold fX12_isSo
  have hN5 := qN
  generalize qv_N = N at hN5 ⊢
  have h8 := hv.1.1
  have hvz := zpE_v hv
  refine ok_lp2 (fun m T x => ∃ i, m = k - i ∧ i ≤ k ∧ x = nI i ∧ (∀ j, j < i → toS E tp ts tz b j = true) ∧ frB S T) ?_ N k S 0 ⟨0, rfl, by omega, rfl, fun j hj => by omega, frB_rf⟩ (by omega)
  rintro self m T x ⟨i, rfl, hi, rfl, hj, hf⟩ ih
  by_cases e : i = k
  · refine ok_pos (by rw [e]; exact Int32.le_refl _) (ok_s ⟨?_, hf⟩)
    rw [if_pos]
    exact decide_eq_true (by rw [e] at hj; exact hj)
  · obtain ⟨t1, t2, t3⟩ := ht i (by omega)
    obtain ⟨s1, s2, s3⟩ := hk.2 i (by omega)
    refine ok_neg (nI_ge (by omega) (by omega)) (ok_ck i rfl (by omega) (by decide) (ok_ck i rfl (by omega) (by decide) ?_))
    rw [qi_cl (by omega), hf.2.1 43 (by decide) (by decide) (by decide), hf.2.1 44 (by decide) (by decide) (by decide), s1, s2, nI_add]
    refine ok_cm (mostM (HM_fr h hf) hvz t1 (t := b + ts i) (by omega)) ?_
    rintro S2 v ⟨hvv, hf2⟩
    have hvv : v = nI (moE (zpE E) (tp i) (b + ts i)) := hvv
    have hf2 : frB T S2 := hf2
    rw [zpE_mo h8] at hvv
    subst hvv
    have hml : mo0 E (tp i) (b + ts i) ≤ 99 := mo0_le
    refine ok_ck i rfl (by omega) (by decide) ?_
    rw [hf2.2.1 45 (by decide) (by decide) (by decide), hf.2.1 45 (by decide) (by decide) (by decide), s3, nI_1]
    refine ok_if (fun g => ?_) (fun g => ok_s ⟨?_, frB_tr hf hf2⟩)
    · have g : mo0 E (tp i) (b + ts i) = tz i := (nI_eq (by omega) (by omega)).mp g
      refine ih (k - (i + 1)) _ _ (by omega) ⟨i + 1, rfl, by omega, rfl, fun j hj2 => ?_, frB_tr hf hf2⟩
      by_cases ej : j = i
      · rw [ej]; unfold toS; rw [beq_iff_eq]; exact g
      · exact hj j (by omega)
    · rw [if_neg]
      intro y
      have := (decide_eq_true_iff.mp y) i (by omega)
      unfold toS at this
      rw [beq_iff_eq] at this
      exact g (by rw [this])
theorem knB_fs {E : sE} {tn k b : Nat} {tp ts tz : Nat → Nat} (hk : k ≤ tn) : knB E tp ts tz k b = true ↔ k ≤ fs (fun j => !toS E tp ts tz b j) 0 tn := by
  obtain ⟨g1, g2, g3, g4⟩ := fs_spec (P := fun j => !toS E tp ts tz b j) tn 0
  unfold knB
  rw [decide_eq_true_iff]
  constructor
  · intro h
    rcases Nat.lt_or_ge (fs (fun j => !toS E tp ts tz b j) 0 tn) k with z | z
    · have := g4 (by omega)
      rw [h _ z] at this
      cases this
    · exact z
  · intro h j hj
    have := g3 j (by omega) (by omega)
    simpa using this
theorem rel_when {i : Nat} {S1 S2 : qv_St} (a b : Int32) (hi : i + 6 ≤ 3072) (hr : Rel i S1 S2) : ∃ (S2' : qv_St) (r : Int32), fX11_when S1 a b = some r ∧ fX12_when S2 a b = some (S2', r) ∧ Rel (i + 6) S1 S2' := by
  obtain ⟨E, lv, n, h, sl, tn, tp, ts, tz, r⟩ := hr
  have same : Rel (i + 6) S1 S2 := ⟨E, lv, n, h, sl, tn, tp, ts, tz, RB_mono (by omega) r⟩
  have h1 := r.2.1.1
  have h2 := r.2.2.1.1
  have hv := h1.1
  have h8 := hv.1.1
  have htn := r.1.2.2.2.1
  have htb := r.1.2.2.2.2
  have k1 := r.2.1.2.2.2
  have k2 := r.2.2.1.2.2.2.1
  unfold fX11_when fX12_when fX10_howMany fX10_which
  have hN5 := qN
  generalize qv_N = N at hN5 ⊢
  simp only [qj_e, qb_e]
  rw [k1.1, k2.1]
  rcases rgI a 0 (nI tn) 0 tn rfl rfl (by omega) (by omega) with ⟨e1, e2⟩ | ⟨k, _, hk, rfl, e1, e2⟩
  · rw [e1, e2, b0, b0, if_pos rfl, if_pos rfl]; exact ⟨S2, -1, rfl, rfl, same⟩
  rw [e1, e2, b1, b1, if_neg n10, if_neg n10]
  by_cases hb1 : ¬ (-1 ≤ b)
  · rw [if_neg hb1, if_neg hb1]; exact ⟨S2, -1, rfl, rfl, same⟩
  have hb1 : -1 ≤ b := Classical.not_not.mp hb1
  rw [if_pos hb1, if_pos hb1]
  -- what is told: the first place where the count is b
  generalize hF : (fun c => knB E tp ts tz k c && (nI (cn (knB E tp ts tz k) c) == b)) = F
  have hFe : ∀ c, F c = (knB E tp ts tz k c && (nI (cn (knB E tp ts tz k) c) == b)) := fun c => by rw [← hF]
  have hag : ∀ c, c < 1000 → (S1.1 269 c < nI k ↔ knB E tp ts tz k c = false) := by
    intro c hc
    rw [k1.2 c hc]
    have hfs := (fs_spec (P := fun j => !toS E tp ts tz c j) tn 0).2.1
    have := knB_fs (E := E) (tn := tn) (k := k) (b := c) (tp := tp) (ts := ts) (tz := tz) hk
    rw [nI_ltI (by omega) (by omega)]
    cases hkb : knB E tp ts tz k c with
    | true => rw [hkb] at this; have := this.mp rfl; simp; omega
    | false =>
      rw [hkb] at this
      have : ¬ k ≤ fs (fun j => !toS E tp ts tz c j) 0 tn := fun z => by have := this.mpr z; cases this
      simp; omega
  have ref : okk ((fX12_copies S2).bind fun S_1 => qv_lp2 N (fun self_2 (S_6 : qv_St) (x3_4 : Int32) => if 8 ≤ x3_4 then qv_lp3 N (fun self_1 (S_4 : qv_St) (x3_2 : Int32) (x4_1 : Int32) => if 999 < x4_1 then (if b = -1 then some (S_4, x3_2) else some (S_4, -1)) else qv_cm (fX12_isSo S_4 (nI k) x4_1) fun S_5 r_2 => if r_2 = 0 then self_1 S_5 x3_2 (x4_1 + 1) else if x3_2 = b then some (S_5, x4_1) else self_1 S_5 (x3_2 + 1) (x4_1 + 1)) S_6 0 0 else qv_ck (4 + x3_4) 32 (self_2 (qv_si S_6 37 (Int32.toNatClampNeg (4 + x3_4)) 0) (x3_4 + 1))) S_1 0) (fun z => z.2 = (if fs F 0 1000 < 1000 then nI (fs F 0 1000) else if b = -1 then nI (cn (knB E tp ts tz k) 1000) else -1) ∧ frQ S2 z.1) := by
    refine ok_bd (copiesQ h2) ?_
    rintro T ⟨hT, hfT⟩
    refine ok_lp2 (fun m U x => ∃ j, m = 8 - j ∧ j ≤ 8 ∧ x = nI j ∧ U.2 = T.2 ∧ (∀ q, q ≠ 37 → U.1 q = T.1 q) ∧ (∀ c, c < 32 → U.1 37 c = nI (if 4 ≤ c ∧ c < 4 + j then 0 else E.2.2.2 c))) ?_ N 8 T 0 ⟨0, rfl, by omega, rfl, rfl, fun _ _ => rfl, fun c hc => by rw [if_neg (by omega)]; exact hT.2.1 c hc⟩ (by omega)
    rintro self m U x ⟨j, rfl, hj, rfl, u1, u2, u3⟩ ih
    by_cases e : j = 8
    · refine ok_pos (by rw [e]; decide) ?_
      rw [e] at u3
      have hU : HM lv (zpE E) U := ⟨mS_G (fun q q1 q2 => u2 q (by omega)) (by rw [u2 0 (by decide)]) hT.1, u3, by rw [u2 0 (by decide)]; exact hT.2.2⟩
      have hkU : tkM tn tp ts tz U.1 := tkM_G (by rw [u2 0 (by decide), hfT.2.2 65 (by decide) (by decide) (by decide) (by decide) (by decide)]) (by rw [u2 43 (by decide), hfT.2.1 43 (by decide) (by decide) (by decide) (by decide) (by decide) (by decide) (by decide) (by decide)]) (by rw [u2 44 (by decide), hfT.2.1 44 (by decide) (by decide) (by decide) (by decide) (by decide) (by decide) (by decide) (by decide)]) (by rw [u2 45 (by decide), hfT.2.1 45 (by decide) (by decide) (by decide) (by decide) (by decide) (by decide) (by decide) (by decide)]) k2
      have hfU : frQ S2 U := frQ_tr hfT ⟨u1, fun q _ _ _ q4 _ _ _ _ => u2 q q4, fun j _ _ _ _ _ => by rw [u2 0 (by decide)]⟩
      refine ok_lp3 (fun m V x3 x4 => ∃ c, m = 1000 - c ∧ c ≤ 1000 ∧ x4 = nI c ∧ x3 = nI (cn (knB E tp ts tz k) c) ∧ (∀ y, y < c → F y = false) ∧ frB U V) ?_ N 1000 U 0 0 ⟨0, rfl, by omega, rfl, rfl, fun y hy => by omega, frB_rf⟩ (by omega)
      rintro self2 m V x3 x4 ⟨c, rfl, hc, rfl, rfl, hFc, hfV⟩ ih2
      have hcn := cn_le (P := knB E tp ts tz k) c
      by_cases ec : c = 1000
      · refine ok_pos (by rw [ec]; decide) ?_
        have hf9 : ¬ fs F 0 1000 < 1000 := by
          intro z
          obtain ⟨g1, g2, g3, g4⟩ := fs_spec (P := F) 1000 0
          have := hFc _ (show fs F 0 1000 < c by omega)
          rw [g4 (by omega)] at this
          cases this
        rw [if_neg hf9]
        refine ok_if (fun g => ok_s ⟨?_, frQ_tr hfU (frQ_B hfV)⟩) (fun g => ok_s ⟨?_, frQ_tr hfU (frQ_B hfV)⟩)
        · rw [if_pos g, ec]
        · rw [if_neg g]
      · refine ok_neg (show ¬ (999 : Int32) < nI c from nI_nlt (b := c) (a := 999) (by omega) (by decide)) ?_
        have hkV : tkM tn tp ts tz V.1 := tkM_G (hfV.2.2 65 (by decide)) (hfV.2.1 43 (by decide) (by decide) (by decide)) (hfV.2.1 44 (by decide) (by decide) (by decide)) (hfV.2.1 45 (by decide) (by decide) (by decide)) hkU
        refine ok_cm (isSoM (HM_fr hU hfV) hv hkV htb htn hk (b := c) (by omega)) ?_
        rintro S5 v ⟨hvv, hf5⟩
        have hvv : v = _ := hvv
        have hf5 : frB V S5 := hf5
        subst hvv
        rw [nI_1, nI_1]
        cases hkb : knB E tp ts tz k c with
        | false =>
          refine ok_pos rfl (ih2 (1000 - (c + 1)) _ _ _ (by omega) ⟨c + 1, rfl, by omega, rfl, by rw [cn, hkb]; rfl, fun y hy => ?_, frB_tr hfV hf5⟩)
          by_cases ey : y = c
          · rw [ey, hFe, hkb]; rfl
          · exact hFc y (by omega)
        | true =>
          refine ok_neg (by decide) (ok_if (fun g => ok_s ⟨?_, frQ_tr hfU (frQ_B (frB_tr hfV hf5))⟩) (fun g => ih2 (1000 - (c + 1)) _ _ _ (by omega) ⟨c + 1, rfl, by omega, rfl, by rw [cn, hkb]; rfl, fun y hy => ?_, frB_tr hfV hf5⟩))
          · have : fs F 0 1000 = c := fs_uniq (by omega) (by omega) (fun y _ hy => hFc y hy) (fun _ => by rw [hFe, hkb, g, beq_self_eq_true]; rfl)
            show nI c = _
            rw [this, if_pos (by omega)]
          · by_cases ey : y = c
            · rw [ey, hFe, hkb, beq_eq_false_iff_ne.mpr g]; rfl
            · exact hFc y (by omega)
    · have e4 : 4 + nI j = nI (4 + j) := nI_add 4 j
      rw [e4, qi_cl (by omega), nI_1]
      refine ok_neg (show ¬ (8 : Int32) ≤ nI j from nI_ge (b := 8) (by omega) (by decide)) (ok_ck (4 + j) rfl (by omega) (by decide) ?_)
      rw [qs_si]
      refine ih (8 - (j + 1)) _ _ (by omega) ⟨j + 1, rfl, by omega, rfl, u1, fun q hq => by rw [qs_ne hq]; exact u2 q hq, fun c hc => ?_⟩
      rw [qs_eq]
      by_cases ec : c = 4 + j
      · rw [ec, upd_eq, if_pos (by omega)]; rfl
      · rw [upd_ne ec, u3 c hc]
        by_cases z : 4 ≤ c ∧ c < 4 + j
        · rw [if_pos z, if_pos (by omega)]
        · rw [if_neg z, if_neg (by omega)]
  obtain ⟨⟨Z, v⟩, eZ, zv, zf⟩ := ref
  have zv : v = _ := zv
  have zf : frQ S2 Z := zf
  have relZ : Rel (i + 6) S1 Z := ⟨E, lv, n, h, sl, tn, tp, ts, tz, RB_mono (by omega) (RB_ask r h1 frE_rf zf)⟩
  have hnF : b = -1 → fs F 0 1000 = 1000 := by
    intro hbb
    refine fs_uniq (by omega) (by omega) (fun y _ hy => ?_) (fun h => by omega)
    have hcn := cn_le (P := knB E tp ts tz k) y
    rw [hFe, hbb, beq_eq_false_iff_ne.mpr (fun z => absurd (z ▸ nI_pos (n := cn (knB E tp ts tz k) y) (by omega)) (by decide)), Bool.and_false]
  refine ⟨Z, v, ?_, eZ, relZ⟩
  by_cases hbb : b = -1
  · rw [if_pos hbb]
    have key : okk (qv_lp2 N (fun self_1 (x2_1 : Int32) (x3_1 : Int32) => if 1000 ≤ x3_1 then some x2_1 else qv_ck x3_1 1000 (if S1.1 269 (Int32.toNatClampNeg x3_1) < nI k then self_1 x2_1 (x3_1 + 1) else self_1 (x2_1 + 1) (x3_1 + 1))) 0 0) (fun z => z = nI (cn (knB E tp ts tz k) 1000)) := by
      refine ok_lp2 (fun m x2 x3 => ∃ c, m = 1000 - c ∧ c ≤ 1000 ∧ x3 = nI c ∧ x2 = nI (cn (knB E tp ts tz k) c)) ?_ N 1000 0 0 ⟨0, rfl, by omega, rfl, rfl⟩ (by omega)
      rintro self m x2 x3 ⟨c, rfl, hc, rfl, rfl⟩ ih
      by_cases ec : c = 1000
      · exact ok_pos (by rw [ec]; decide) (ok_s (by rw [ec]))
      · refine ok_neg (show ¬ (1000 : Int32) ≤ nI c from nI_ge (b := 1000) (by omega) (by decide)) (ok_ck c rfl (by omega) (by decide) ?_)
        rw [qi_cl (by omega), nI_1, nI_1]
        have hg := hag c (by omega)
        refine ok_if (fun g => ?_) (fun g => ?_)
        · exact ih (1000 - (c + 1)) _ _ (by omega) ⟨c + 1, rfl, by omega, rfl, by rw [cn, hg.mp g]; rfl⟩
        · have : knB E tp ts tz k c = true := by
            cases hkb : knB E tp ts tz k c with
            | true => rfl
            | false => exact absurd (hg.mpr hkb) g
          exact ih (1000 - (c + 1)) _ _ (by omega) ⟨c + 1, rfl, by omega, rfl, by rw [cn, this]; rfl⟩
    obtain ⟨w, ew, hw⟩ := key
    rw [ew, Option.bind_some, hw, zv, if_neg (by rw [hnF hbb]; omega), if_pos hbb]
  · rw [if_neg hbb]
    have key : okk (qv_lp2 N (fun self_1 (x3_1 : Int32) (x4_1 : Int32) => if 1000 ≤ x4_1 then some (-1) else qv_ck x4_1 1000 (if S1.1 269 (Int32.toNatClampNeg x4_1) < nI k then self_1 x3_1 (x4_1 + 1) else if x3_1 = b then some x4_1 else self_1 (x3_1 + 1) (x4_1 + 1))) 0 0) (fun z => z = (if fs F 0 1000 < 1000 then nI (fs F 0 1000) else -1)) := by
      refine ok_lp2 (fun m x3 x4 => ∃ c, m = 1000 - c ∧ c ≤ 1000 ∧ x4 = nI c ∧ x3 = nI (cn (knB E tp ts tz k) c) ∧ ∀ y, y < c → F y = false) ?_ N 1000 0 0 ⟨0, rfl, by omega, rfl, rfl, fun y hy => by omega⟩ (by omega)
      rintro self m x3 x4 ⟨c, rfl, hc, rfl, rfl, hFc⟩ ih
      by_cases ec : c = 1000
      · refine ok_pos (by rw [ec]; decide) (ok_s ?_)
        rw [if_neg]
        intro z
        obtain ⟨g1, g2, g3, g4⟩ := fs_spec (P := F) 1000 0
        have := hFc _ (show fs F 0 1000 < c by omega)
        rw [g4 (by omega)] at this
        cases this
      · refine ok_neg (show ¬ (1000 : Int32) ≤ nI c from nI_ge (b := 1000) (by omega) (by decide)) (ok_ck c rfl (by omega) (by decide) ?_)
        rw [qi_cl (by omega), nI_1, nI_1]
        have hg := hag c (by omega)
        refine ok_if (fun g => ?_) (fun g => ?_)
        · refine ih (1000 - (c + 1)) _ _ (by omega) ⟨c + 1, rfl, by omega, rfl, by rw [cn, hg.mp g]; rfl, fun y hy => ?_⟩
          by_cases ey : y = c
          · rw [ey, hFe, hg.mp g]; rfl
          · exact hFc y (by omega)
        · have hkb : knB E tp ts tz k c = true := by
            cases hkb : knB E tp ts tz k c with
            | true => rfl
            | false => exact absurd (hg.mpr hkb) g
          refine ok_if (fun g2 => ok_s ?_) (fun g2 => ih (1000 - (c + 1)) _ _ (by omega) ⟨c + 1, rfl, by omega, rfl, by rw [cn, hkb]; rfl, fun y hy => ?_⟩)
          · have : fs F 0 1000 = c := fs_uniq (by omega) (by omega) (fun y _ hy => hFc y hy) (fun _ => by rw [hFe, hkb, g2, beq_self_eq_true]; rfl)
            rw [this, if_pos (by omega)]
          · by_cases ey : y = c
            · rw [ey, hFe, hkb, beq_eq_false_iff_ne.mpr g2]; rfl
            · exact hFc y (by omega)
    obtain ⟨w, ew, hw⟩ := key
    rw [ew, Option.bind_some, hw, zv, if_neg hbb]
