/-! read keeps the relation -/
theorem qC_hi {E : sE} {S T : qv_St} (f : ∀ q, 9 ≤ q → T.1 q = S.1 q) (h : qC E S) : qC E T := by
  obtain ⟨c1, ⟨x1, x2, x3, x4, x5⟩, c3⟩ := h
  refine ⟨c1, ⟨cS_G (fun q q1 q2 _ _ => f q q1) x1, cR_G (fun q q1 q2 => f q (by omega)) x2, by rw [f 254 (by decide)]; exact x3, ?_, ?_⟩, ?_⟩
  · unfold cZ; rw [f 255 (by decide), f 256 (by decide), f 257 (by decide)]; exact x4
  · intro k hk hk2; rw [f 258 (by decide), f 259 (by decide)]; exact x5 k hk hk2
  · rcases c3 with y | ⟨p', y1, y2, y3, y4⟩
    · exact Or.inl (by rw [f 260 (by decide)]; exact y)
    · exact Or.inr ⟨p', by rw [f 260 (by decide)]; exact y1, y2, by rw [f 261 (by decide)]; exact y3, by rw [f 262 (by decide)]; exact y4⟩
theorem rV_0 {i : Nat} {D : Nat → Nat → Nat} (hv : vD D) : rV i D (R0 D) := by
  have h1 := hv.2.2.2.2.1
  refine ⟨fun k hk => ?_, ?_, fun s _ hs => c0R_ne (by omega), fun s hs => ?_⟩
  · unfold R0 c0R
    split <;> omega
  · by_cases g : D 9 1 = 0
    · exact Or.inl g
    · refine Or.inr ?_
      have : R0 D 1 = 0 := c0R_ne (by decide)
      omega
  · have : R0 D (12 + s) = 0 := c0R_ne (by omega)
    omega
theorem rel_read {i : Nat} {S1 S2 : qv_St} (hi : i + 6 ≤ 3072) (hr : Rel i S1 S2) : ∃ (S1' : qv_St) (S2' : qv_St) (r : Int32), fX11_read S1 = some (S1', r) ∧ fX12_read S2 = some (S2', r) ∧ Rel (i + 6) S1' S2' := by
  obtain ⟨E, lv, n, h, sl, tn, tpp, ts, tz, r1, ⟨c1, c2, c3, c4⟩, ⟨m1, m2, m3, m4, m5⟩, ⟨L, t1, t2, t3, t4⟩, pl⟩ := hr
  have hvD : vD E.1 := c1.1.1
  generalize hBd : (fun k => (S1.1 2 k).toBitVec.toNat % 256) = B
  have hBk : ∀ k, B k = (S1.1 2 k).toBitVec.toNat % 256 := fun k => by rw [← hBd]
  have hB : ∀ k, B k < 256 := fun k => by rw [hBk]; exact Nat.mod_lt _ (by decide)
  have htC : txC B L S1 := ⟨t2, fun k hk => by rw [and255, hBk]⟩
  have hbM : ∀ k, k < L → vp_nar .byte (S2.1 1 k) &&& 255 = nI (B k) := fun k hk => by rw [nar255, hBk, t4 k hk]
  obtain ⟨⟨Z2, v2⟩, e2, hp, cM, iM, k1, k2, k3, k4, k5, k6, k7, k8⟩ := readM (E := E) m1.2.1 hvD m5 t3 t1 hB hbM
  have k3 : v2 = nI cM := k3
  have hV9 : ∀ i, tvn B L i ≤ 9999 := tvn_lt t1 hp
  have hV : ∀ i, tvn B L i < 2 ^ 31 := fun i => by have := hV9 i; omega
  -- the class
  have hC : okk (fX11_read S1) (fun z => ∃ c i, chk (tk B L) (tvn B L) (smN B L) (nT B L) c i ∧ c ≤ 5 ∧ z.2 = nI c ∧ z.1.1 7 9 = (if c = 0 then -1 else nI (tp B L i)) ∧ z.1.1 1 1 = 0 ∧ (c ≠ 0 → ∀ q, q ≠ 1 → q ≠ 3 → q ≠ 4 → q ≠ 5 → q ≠ 7 → z.1.1 q = S1.1 q) ∧ (c = 0 → vD (dat (tk B L) (tvn B L) (nT B L)).1 ∧ (∀ k, k < 3 → lwf ((dat (tk B L) (tvn B L) (nT B L)).2 k)) ∧ qC ((dat (tk B L) (tvn B L) (nT B L)).1, (dat (tk B L) (tvn B L) (nT B L)).2, nI ((dat (tk B L) (tvn B L) (nT B L)).1 9 17), R0 (dat (tk B L) (tvn B L) (nT B L)).1) z.1 ∧ hC 0 h z.1.1 ∧ slC (fun _ => none) z.1.1 ∧ tkC ((dat (tk B L) (tvn B L) (nT B L)).1, (dat (tk B L) (tvn B L) (nT B L)).2, nI ((dat (tk B L) (tvn B L) (nT B L)).1 9 17), R0 (dat (tk B L) (tvn B L) (nT B L)).1) 0 tpp ts tz z.1.1)) := by
    unfold fX11_read
    refine ok_bd (cutC htC hB t1) ?_
    rintro A ⟨a1, a2, a3, a4, a5, a6, a7, a8⟩
    have htkA : tkC' B L A := ⟨a1, a2, a3, a4, a5⟩
    refine ok_bsi (fun X x1 x2 x3 x4 _ => ?_)
    have htkX : tkC' B L X := tkC_fr htkA (x2 3 (by decide)) (x2 4 (by decide)) (x2 5 (by decide)) (by rw [x4])
    refine ok_bd (checkC t1 hp htkX) ?_
    rintro Y ⟨c, j, y1, y2, y3, y4, y5, y6⟩
    have yq : ∀ q, q ≠ 1 → q ≠ 3 → q ≠ 4 → q ≠ 5 → q ≠ 7 → Y.1 q = S1.1 q := fun q q1 q3 q4 q5 q7 => by rw [y5 q q7, x2 q q1, a6 q q3 q4 q5]
    have y11 : Y.1 1 1 = 0 := by rw [y5 1 (by decide)]; exact x1
    by_cases g : c = 0
    · refine ok_pos (by rw [y3, g]; rfl) ?_
      have htkY : tkC' B L Y := tkC_fr htkX (y5 3 (by decide)) (y5 4 (by decide)) (y5 5 (by decide)) (y6 6 (by decide))
      -- the text has no fault
      have hno : (tR (tk B L) (tvn B L) 401 (0, 0, 0) (0, 0, 0)).2.1 = 0 ∧ ∀ j, j < nT B L → ∀ d, ¬ isBad (tk B L) (tvn B L) (smN B L) j d := by
        rcases y1 with ⟨z1, z2, _⟩ | ⟨z1, z2⟩
        · exact absurd (z2.symm.trans g) z1
        · refine ⟨z1, ?_⟩
          rcases z2 with z2 | z2
          · exact z2.2
          · have := bad_c z2.1; omega
      obtain ⟨t', c', f1, f2, f3⟩ := tR_ok hV 401 (0, 0, 0) 0 gdT_0 (by decide) hno.1
      have ft := end_nT f2 f3
      rw [ft] at f2
      obtain ⟨vd, vl⟩ := dat_v hV9 f2 hno.2 (nT B L) (Nat.le_refl _)
      refine ok_bd (learnC t1 hp htkY f2) ?_
      rintro W ⟨w1, w2⟩
      obtain ⟨top, h1', h2', _⟩ := c2
      have wz : cZ W.1 := by
        have := c1.2.1.2.2.2.1
        unfold cZ at this ⊢
        rw [w2.1 255 (by decide), w2.1 256 (by decide), w2.1 257 (by decide), yq 255 (by decide) (by decide) (by decide) (by decide) (by decide), yq 256 (by decide) (by decide) (by decide) (by decide) (by decide), yq 257 (by decide) (by decide) (by decide) (by decide) (by decide)]
        exact this
      refine ok_bd (beginC (h := h) (tp := tpp) (ts := ts) (tz := tz) vd vl w1 wz h1' (by rw [w2.1 36 (by decide), yq 36 (by decide) (by decide) (by decide) (by decide) (by decide)]; exact h2')) ?_
      rintro V ⟨q1, q2, q3, q4, q5, q6⟩
      refine ok_s ⟨c, j, y1, y2, ?_, ?_, ?_, fun z => absurd g z, fun _ => ⟨vd, vl, q1, q2, q3, q4⟩⟩
      · show V.1 7 8 = nI c
        rw [q6 7 (by decide) (by decide), w2.1 7 (by decide)]; exact y3
      · show V.1 7 9 = _
        rw [q6 7 (by decide) (by decide), w2.1 7 (by decide)]; exact y4
      · show V.1 1 1 = 0
        rw [q6 1 (by decide) (by decide), w2.1 1 (by decide)]; exact y11
    · refine ok_neg (by rw [y3]; exact nI_ne0 (by omega) (by omega)) (ok_s ⟨c, j, y1, y2, y3, y4, y11, fun _ => yq, fun z => absurd z g⟩)
  obtain ⟨⟨Z1, v1⟩, e1, c, j, y1, y2, y3, y4, y5, y6, y7⟩ := hC
  have y3 : v1 = nI c := y3
  obtain ⟨ec, ei⟩ := chk_u y1 k1
  subst ec
  refine ⟨Z1, Z2, nI c, by rw [e1, y3], by rw [e2, k3], ?_⟩
  have hpl : Z1.1 7 9 = Z2.1 0 17 := by
    rw [show Z1.1 7 9 = _ from y4, show Z2.1 0 17 = _ from k4]
    by_cases g : c = 0
    · rw [if_pos g, if_pos g]
    · rw [if_neg g, if_neg g, ei g]
  have hrT : rT Z1 Z2 := ⟨0, by decide, y5, k5, fun k hk => absurd hk (Nat.not_lt_zero _)⟩
  have hkM : kM Z2 := fun k hk => by rw [show Z2.2 7 = S2.2 7 from k6 7 (by decide) (by decide)]; exact m5 k hk
  by_cases g : c = 0
  · obtain ⟨vd, vl, q1, q2, q3, q4⟩ := y7 g
    obtain ⟨n1, n2, n3, n4, n5⟩ := k8 g
    have hrv := rV_0 (i := i + 6) vd
    refine ⟨_, 1 - lv, 0, h, (fun _ => none), 0, tpp, ts, tz, ⟨hrv, fun j hj => absurd hj (Nat.not_lt_zero _), fun s hs r hr => (by cases hr), by decide, fun j hj => absurd hj (Nat.not_lt_zero _)⟩, ⟨q1, q2, q3, q4⟩, ⟨⟨q1.1, n1, n2, rfl⟩, ⟨n3, by decide, fun j hj => absurd hj (Nat.not_lt_zero _)⟩, ⟨fun s hs => n5 s hs, fun s hs r hr => (by cases hr)⟩, ⟨n4, fun j hj => absurd hj (Nat.not_lt_zero _)⟩, hkM⟩, hrT, hpl⟩
  · have yq := y6 g
    have yq : ∀ q, q ≠ 1 → q ≠ 3 → q ≠ 4 → q ≠ 5 → q ≠ 7 → Z1.1 q = S1.1 q := yq
    obtain ⟨n1, n2, n3, n4⟩ := k7 g
    have n2 : ∀ q, 33 < q → Z2.1 q = S2.1 q := n2
    have hr2 : RB i E lv n h sl tn tpp ts tz Z1 Z2 := by
      refine ⟨r1, ⟨qC_hi (fun q q9 => yq q (by omega) (by omega) (by omega) (by omega) (by omega)) c1, hC_G (fun q q1 q2 => yq q (by omega) (by omega) (by omega) (by omega) (by omega)) c2, slC_G (by rw [yq 0 (by decide) (by decide) (by decide) (by decide) (by decide)]) (fun q q1 q2 => yq q (by omega) (by omega) (by omega) (by omega) (by omega)) c3, tkC_G (by rw [yq 268 (by decide) (by decide) (by decide) (by decide) (by decide)]) (yq 269 (by decide) (by decide) (by decide) (by decide) (by decide)) c4⟩, ⟨⟨m1.1, n1, fun k hk => by rw [n2 36 (by decide)]; exact m1.2.2.1 k hk, m1.2.2.2⟩, hM_G n3 (n2 39 (by decide)) m2, slM_G (n2 46 (by decide)) (n2 47 (by decide)) m3, tkM_G n4 (n2 43 (by decide)) (n2 44 (by decide)) (n2 45 (by decide)) m4, hkM⟩, hrT, hpl⟩
    exact ⟨E, lv, n, h, sl, tn, tpp, ts, tz, RB_mono (by omega) hr2⟩
