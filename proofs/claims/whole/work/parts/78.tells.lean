/-! the reference's TELLS with a name -/
def rS (B : Nat → Nat) (L sd t : Nat) (c : Nat × Nat × Nat) (S : qv_St) : Prop :=
  lM B L (t, 0, 0) S ∧ gdT (tk B L) (tvn B L) t c ∧ t ≤ nT B L ∧ tkM' B L S ∧ S.1 0 19 = nI sd ∧ S.1 0 12 = 0 ∧ (∃ cd br, S.1 0 45 = nI cd ∧ 420 * sd ≤ cd ∧ cd ≤ 420 * sd + t ∧ S.1 0 39 = nI br ∧ 130 * sd ≤ br ∧ 4 * br ≤ 520 * sd + t ∧ mLaws sd (dat (tk B L) (tvn B L) t).2 S.1 br cd) ∧ mDat sd (dat (tk B L) (tvn B L) t).1 S.1 ∧ S.1 0 20 = nI (nN (tk B L) t) ∧ nmA B L 27 t (S.2 8) ∧ wM B L t S
def tlQ (B : Nat → Nat) (L sd t : Nat) (c : Nat × Nat × Nat) (S Z : qv_St) : Prop := lM B L (tellS (tk B L) (tvn B L) c (t, 0, 0)) Z ∧ fmS sd S Z ∧ ((tellS (tk B L) (tvn B L) c (t, 0, 0)).2.1 = 0 → ∃ t', tellS (tk B L) (tvn B L) c (t, 0, 0) = (t', 0, 0) ∧ rS B L sd t' (cntS (tk B L t) c) Z)
theorem rS_data {B : Nat → Nat} {L sd t t' : Nat} {c : Nat × Nat × Nat} {S Z : qv_St} (hL : L ≤ 2000) (hp : ∀ i, i < nT B L → ps B L i < L) (hsd : sd ≤ 1) (h : rS B L sd t c S) (he : tellS (tk B L) (tvn B L) c (t, 0, 0) = (t', 0, 0)) (zl : lM B L (t', 0, 0) Z) (zt : tkM' B L Z) (zq : ∀ q, 24 ≤ q → q ≤ 32 → Z.1 q = S.1 q) (z12 : Z.1 0 12 = S.1 0 12) (z19 : Z.1 0 19 = S.1 0 19) (z39 : Z.1 0 39 = S.1 0 39) (z45 : Z.1 0 45 = S.1 0 45) (zd : mDat sd (tel (tk B L) (tvn B L) t (dat (tk B L) (tvn B L) t)).1 Z.1) (zW : (tel (tk B L) (tvn B L) t (dat (tk B L) (tvn B L) t)).2 = (dat (tk B L) (tvn B L) t).2) (z20 : Z.1 0 20 = nI (nN (tk B L) t')) (zn : nmA B L 27 t' (Z.2 8)) (zw : wM B L t' Z) : rS B L sd t' (cntS (tk B L t) c) Z := by
  have hV : ∀ i, tvn B L i < 2 ^ 31 := fun i => by have := tvn_lt hL hp i; omega
  obtain ⟨r1, r2, r3, r4, r5, r6, ⟨cd, br, q1, q2, q3, q4, q5, q6, q7⟩, r8, r9, r10, r11⟩ := h
  obtain ⟨t1, e1, e2, e3, e4⟩ := tellS_ok hV (show (tellS (tk B L) (tvn B L) c (t, 0, 0)).2.1 = 0 by rw [he])
  have et : t1 = t' := by rw [he] at e1; exact (congrArg Prod.fst e1).symm
  subst et
  obtain ⟨_, _, b3, _⟩ := gdT_in hV r2.1 e2 e3 e4
  have s1 := (shT_tok hV e2 e3 e4).1
  have hin := (tk_in (B := B) (L := L) (i := t1 - 1) (by omega)).1
  refine ⟨zl, gdT_step hV r2 e2 e3 e4, by omega, zt, by rw [z19]; exact r5, by rw [z12]; exact r6, ⟨cd, br, by rw [z45]; exact q1, q2, by omega, by rw [z39]; exact q4, q5, by omega, ?_⟩, by rw [b3]; exact zd, z20, zn, zw⟩
  rw [b3, zW]
  exact mLaws_G (by omega) (by omega) zq q7
theorem nmA_rg {B : Nat → Nat} {L b a : Nat} {A : Nat → Int64} : ∀ d, (∀ i, a ≤ i → i < a + d → tk B L i ≠ 22) → nmA B L b a A → nmA B L b (a + d) A ∧ nN (tk B L) (a + d) = nN (tk B L) a
  | 0, _, h => ⟨h, rfl⟩
  | d + 1, hk, h => by
    obtain ⟨h1, h2⟩ := nmA_rg d (fun i i1 i2 => hk i i1 (by omega)) h
    obtain ⟨h3, h4⟩ := nmA_skip h1 (hk (a + d) (by omega) (by omega))
    exact ⟨h3, h4.trans h2⟩
theorem namedX {B : Nat → Nat} {L sd t : Nat} {c : Nat × Nat × Nat} {S T : qv_St} (hL : L ≤ 2000) (hp : ∀ i, i < nT B L → ps B L i < L) (h : rS B L sd t c S) (hk : tk B L t ≤ 3) (hs : c.1 + c.2.1 + c.2.2 < 18) (tl : lM B L (sPass (t, 0, 0)) T) (t0 : (sPass (t, 0, 0)).2.1 = 0) (tf : fmP S T) :
    okk (fX12_named T) (fun z => z.2 = nI (t + 1) ∧ lM B L (nP_ (tk B L) t 0) z.1 ∧ fmB S z.1 ∧ ((nP_ (tk B L) t 0).2.1 = 0 → wM B L (t + 2) z.1)) := by
  obtain ⟨r1, r2, r3, r4, r5, r6, r7, r8, r9, r10, r11⟩ := h
  obtain ⟨_, h4, e⟩ := sPass_ok t0
  have h4 : t < 400 := h4
  have e : sPass (t, 0, 0) = (t + 1, 0, 0) := e
  have hin := (tk_in (B := B) (L := L) (i := t) (by omega)).1
  obtain ⟨m1, m2⟩ := nmA_skip (b := 27) r10 (by omega)
  have hN := r2.2.2.2.2.2.2.1
  rw [e] at tl
  refine ok_mono (namedM (t := t + 1) hL hp tl (by omega) (by omega) (fmP_tk r4 tf) (wM_P (wM_skip r11 (not_bad (by omega) (by omega))) tf) (by rw [tf.2.1 20 (by decide) (by decide) (by decide), m2]; exact r9) (by rw [m2, hN]; omega) (by rw [tf.2.2]; exact m1)) ?_
  rintro z ⟨z1, z2, z3, z4⟩
  have e0 : nP_ (tk B L) t 0 = sOnly (tk B L) 22 (t + 1, 0, 0) := by unfold nP_; rw [e]; rfl
  rw [e0]
  exact ⟨z1, z2, fmB_trans (fmB_P tf) z3, z4⟩
theorem endsX {B : Nat → Nat} {L t m : Nat} {X : qv_St} (hk3 : tk B L t ≤ 3) (h4 : t ≤ 400) (hn : t ≤ nT B L) (hl : lM B L (nP_ (tk B L) t m) X) (ht : tkM' B L X) (h20 : X.1 0 20 = nI (nN (tk B L) (t + 1))) (hnn : nN (tk B L) (t + 1) < 18) (hna : nmA B L 27 (t + 1) (X.2 8)) :
    okk (fX12_ends X (nI (t + 1))) (fun Z => lM B L (sOnly (tk B L) 59 (nP_ (tk B L) t m)) Z ∧ (∀ q, q ≠ 0 → Z.1 q = X.1 q) ∧ (∀ k, k ≠ 11 → k ≠ 13 → k ≠ 14 → k ≠ 20 → Z.1 0 k = X.1 0 k) ∧ (∀ q, q ≠ 8 → Z.2 q = X.2 q) ∧ ((sOnly (tk B L) 59 (nP_ (tk B L) t m)).2.1 = 0 → Z.1 0 20 = nI (nN (tk B L) (t + 3 + m)) ∧ nmA B L 27 (t + 3 + m) (Z.2 8))) := by
  have hq := nP_q (B := B) (L := L) (t := t) (by omega) h4 hn m
  by_cases g : (nP_ (tk B L) t m).2.1 = 0
  · obtain ⟨g1, g2, g3, g4⟩ := nP_ok g
    refine ok_mono (endsM hl hq ht g2 (by omega) h20 hnn hna) ?_
    rintro Z ⟨z1, z2, z3, z4, z5⟩
    refine ⟨z1, z2, z3, z4, fun z => ?_⟩
    obtain ⟨y1, y2⟩ := z5 z
    obtain ⟨_, y4, _, _⟩ := sOnly_ok z
    rw [g1] at y4
    have y4 : tk B L (t + 2 + m) = 59 := y4
    obtain ⟨x1, x2⟩ := nmA_rg (a := t + 2) (1 + m) (fun i i1 i2 => by
      by_cases e : i = t + 2 + m
      · rw [e, y4]; decide
      · have := g3 (i - (t + 2)) (by omega)
        rw [show t + 2 + (i - (t + 2)) = i by omega] at this
        rw [this]; decide) y2
    rw [show t + 2 + (1 + m) = t + 3 + m by omega] at x1 x2
    exact ⟨by rw [x2]; exact y1, x1⟩
  · have h5 := hq.1.2
    rw [sOnly_f g]
    unfold fX12_ends
    refine ok_bd (mustL (k := 59) hl hq ht rfl) ?_
    rintro Z ⟨z1, z2⟩
    rw [sOnly_f g] at z1
    refine ok_neg (by rw [z1.1]; exact nI_nle (by omega) (by omega)) (ok_s ⟨z1, z2.1, fun k k1 k2 k3 _ => z2.2.1 k k1 k2 k3, fun q _ => by rw [z2.2.2], fun z => absurd z g⟩)
theorem mDat_N {sd a b c d e f : Nat} {D : Nat → Nat → Nat} {G G' : Nat → Nat → Int32} (h : mDat sd D G) (h9 : G' 9 = upd (G 9) sd (nI (D 9 0 + 1))) (h10 : G' 10 = upd (G 10) (8 * sd + D 9 0) (nI a)) (h11 : G' 11 = upd (G 11) (8 * sd + D 9 0) (nI b)) (h12 : G' 12 = upd (G 12) (8 * sd + D 9 0) (nI c)) (h13 : G' 13 = upd (G 13) (8 * sd + D 9 0) (nI d)) (h14 : G' 14 = upd (G 14) (8 * sd + D 9 0) (nI e)) (h15 : G' 15 = upd (G 15) (8 * sd + D 9 0) (nI f)) (hr : ∀ r, 15 < r → r ≤ 23 → G' r = G r) : mDat sd (addN D a b c d e f) G' := by
  obtain ⟨a2, a3, a4, a5, a6, a7, a8, a9, a10⟩ := h
  refine ⟨by rw [h9, upd_eq, addN_0], by rw [hr 16 (by decide) (by decide), addN_9 (by decide)]; exact a3, by rw [hr 18 (by decide) (by decide), addN_9 (by decide)]; exact a4, by rw [hr 21 (by decide) (by decide), addN_9 (by decide)]; exact a5, by rw [hr 22 (by decide) (by decide), addN_9 (by decide)]; exact a6, by rw [hr 23 (by decide) (by decide), addN_9 (by decide)]; exact a7, fun q q1 q2 k hk => ?_, fun p hp => ?_, fun s hs => ?_⟩
  · rw [addN_0] at hk
    by_cases ek : k = D 9 0
    · subst ek
      rw [addN_n q1 q2]
      rcases (by omega : q = 10 ∨ q = 11 ∨ q = 12 ∨ q = 13 ∨ q = 14 ∨ q = 15) with rfl | rfl | rfl | rfl | rfl | rfl
      · rw [h10, upd_eq]; rfl
      · rw [h11, upd_eq]; rfl
      · rw [h12, upd_eq]; rfl
      · rw [h13, upd_eq]; rfl
      · rw [h14, upd_eq]; rfl
      · rw [h15, upd_eq]; rfl
    · rw [addN_lo q1 ek]
      have := a8 q q1 q2 k (by omega)
      have hne : 8 * sd + k ≠ 8 * sd + D 9 0 := by omega
      rcases (by omega : q = 10 ∨ q = 11 ∨ q = 12 ∨ q = 13 ∨ q = 14 ∨ q = 15) with rfl | rfl | rfl | rfl | rfl | rfl
      · rw [h10, upd_ne hne]; exact this
      · rw [h11, upd_ne hne]; exact this
      · rw [h12, upd_ne hne]; exact this
      · rw [h13, upd_ne hne]; exact this
      · rw [h14, upd_ne hne]; exact this
      · rw [h15, upd_ne hne]; exact this
  · rw [addN_9 (by decide)] at hp
    rw [addN_hi (by decide), hr 17 (by decide) (by decide)]; exact a9 p hp
  · rw [addN_9 (by decide)] at hs
    rw [addN_hi (by decide), addN_hi (by decide), hr 19 (by decide) (by decide), hr 20 (by decide) (by decide)]; exact a10 s hs
theorem mDat_P {sd a : Nat} {D : Nat → Nat → Nat} {G G' : Nat → Nat → Int32} (h : mDat sd D G) (h16 : G' 16 = upd (G 16) sd (nI (D 9 1 + 1))) (h17 : G' 17 = upd (G 17) (4 * sd + D 9 1) (nI a)) (hr : ∀ r, 9 ≤ r → r ≤ 23 → r ≠ 16 → r ≠ 17 → G' r = G r) : mDat sd (addP D a) G' := by
  obtain ⟨a2, a3, a4, a5, a6, a7, a8, a9, a10⟩ := h
  refine ⟨by rw [hr 9 (by decide) (by decide) (by decide) (by decide), addP_9 (by decide)]; exact a2, by rw [h16, upd_eq, addP_1], by rw [hr 18 (by decide) (by decide) (by decide) (by decide), addP_9 (by decide)]; exact a4, by rw [hr 21 (by decide) (by decide) (by decide) (by decide), addP_9 (by decide)]; exact a5, by rw [hr 22 (by decide) (by decide) (by decide) (by decide), addP_9 (by decide)]; exact a6, by rw [hr 23 (by decide) (by decide) (by decide) (by decide), addP_9 (by decide)]; exact a7, fun q q1 q2 k hk => ?_, fun p hp => ?_, fun s hs => ?_⟩
  · rw [addP_9 (by decide)] at hk
    rw [hr q (by omega) (by omega) (by omega) (by omega), addP_q (by omega) (Or.inl (by omega))]; exact a8 q q1 q2 k hk
  · rw [addP_1] at hp
    by_cases e : p = D 9 1
    · rw [e, h17, upd_eq, addP_n]
    · rw [h17, upd_ne (by omega), addP_q (by decide) (Or.inr e)]; exact a9 p (by omega)
  · rw [addP_9 (by decide)] at hs
    rw [hr 19 (by decide) (by decide) (by decide) (by decide), hr 20 (by decide) (by decide) (by decide) (by decide), addP_q (by decide) (Or.inl (by decide)), addP_q (by decide) (Or.inl (by decide))]; exact a10 s hs
theorem mDat_S {sd a b : Nat} {D : Nat → Nat → Nat} {G G' : Nat → Nat → Int32} (h : mDat sd D G) (h18 : G' 18 = upd (G 18) sd (nI (D 9 2 + 1))) (h19 : G' 19 = upd (G 19) (6 * sd + D 9 2) (nI a)) (h20 : G' 20 = upd (G 20) (6 * sd + D 9 2) (nI b)) (hr : ∀ r, 9 ≤ r → r ≤ 23 → r ≠ 18 → r ≠ 19 → r ≠ 20 → G' r = G r) : mDat sd (addS D a b) G' := by
  obtain ⟨a2, a3, a4, a5, a6, a7, a8, a9, a10⟩ := h
  refine ⟨by rw [hr 9 (by decide) (by decide) (by decide) (by decide) (by decide), addS_9 (by decide)]; exact a2, by rw [hr 16 (by decide) (by decide) (by decide) (by decide) (by decide), addS_9 (by decide)]; exact a3, by rw [h18, upd_eq, addS_2], by rw [hr 21 (by decide) (by decide) (by decide) (by decide) (by decide), addS_9 (by decide)]; exact a5, by rw [hr 22 (by decide) (by decide) (by decide) (by decide) (by decide), addS_9 (by decide)]; exact a6, by rw [hr 23 (by decide) (by decide) (by decide) (by decide) (by decide), addS_9 (by decide)]; exact a7, fun q q1 q2 k hk => ?_, fun p hp => ?_, fun s hs => ?_⟩
  · rw [addS_9 (by decide)] at hk
    rw [hr q (by omega) (by omega) (by omega) (by omega) (by omega), addS_q (by omega) (Or.inl (by omega))]; exact a8 q q1 q2 k hk
  · rw [addS_9 (by decide)] at hp
    rw [hr 17 (by decide) (by decide) (by decide) (by decide) (by decide), addS_q (by decide) (Or.inl (by decide))]; exact a9 p hp
  · rw [addS_2] at hs
    by_cases e : s = D 9 2
    · rw [e, h19, h20, upd_eq, upd_eq, addS_17, addS_18]; exact ⟨rfl, rfl⟩
    · rw [h19, h20, upd_ne (by omega), upd_ne (by omega), addS_q (by decide) (Or.inr e), addS_q (by decide) (Or.inr e)]; exact a10 s (by omega)
/-- a TELL with a name: its end -/
theorem endN {B : Nat → Nat} {L sd t m : Nat} {c : Nat × Nat × Nat} {S X : qv_St} {Q : qv_St → Prop} {kk : qv_St → Option qv_St} (hL : L ≤ 2000) (hp : ∀ i, i < nT B L → ps B L i < L) (h : rS B L sd t c S) (hk3 : tk B L t ≤ 3) (hs : c.1 + c.2.1 + c.2.2 < 18) (xl : lM B L (nP_ (tk B L) t m) X) (xt : tkM' B L X) (x0 : ∀ s, s ≠ 11 → s ≠ 13 → s ≠ 14 → s ≠ 15 → s ≠ 16 → X.1 0 s = S.1 0 s) (x2 : X.2 = S.2) (xw : (nP_ (tk B L) t m).2.1 = 0 → wM B L (t + 2 + m) X)
    (hbad : ∀ Z, (sOnly (tk B L) 59 (nP_ (tk B L) t m)).2.1 ≠ 0 → lM B L (sOnly (tk B L) 59 (nP_ (tk B L) t m)) Z → (∀ q, q ≠ 0 → Z.1 q = X.1 q) → (∀ s, (s < 11 ∨ 16 < s) → s ≠ 20 → Z.1 0 s = S.1 0 s) → (∀ q, q ≠ 8 → Z.2 q = S.2 q) → Q Z)
    (hgood : ∀ Z, (sOnly (tk B L) 59 (nP_ (tk B L) t m)).2.1 = 0 → lM B L (sOnly (tk B L) 59 (nP_ (tk B L) t m)) Z → tkM' B L Z → (∀ q, q ≠ 0 → Z.1 q = X.1 q) → (∀ s, s ≠ 11 → s ≠ 13 → s ≠ 14 → s ≠ 15 → s ≠ 16 → s ≠ 20 → Z.1 0 s = S.1 0 s) → (∀ q, q ≠ 8 → Z.2 q = S.2 q) → Z.1 0 20 = nI (nN (tk B L) (t + 3 + m)) → nmA B L 27 (t + 3 + m) (Z.2 8) → wM B L (t + 3 + m) Z → okk (kk Z) Q) :
    okk ((fX12_ends X (nI (t + 1))).bind fun S_13 => if (S_13.1 0 13) = 0 then kk S_13 else some S_13) Q := by
  obtain ⟨r1, r2, r3, r4, r5, r6, r7, r8, r9, r10, r11⟩ := h
  have h4 := r2.2.1
  obtain ⟨m1, m2⟩ := nmA_skip (b := 27) r10 (by omega)
  have hN := r2.2.2.2.2.2.2.1
  refine ok_bd (endsX hk3 h4 r3 xl xt (by rw [x0 20 (by decide) (by decide) (by decide) (by decide) (by decide), m2]; exact r9) (by rw [m2, hN]; exact hs) (by rw [x2]; exact m1)) ?_
  rintro Z ⟨z1, z2, z3, z4, z5⟩
  have h5 := (sOnly_wf (K := tk B L) (k := 59) (nP_q (B := B) (L := L) (t := t) (by omega) h4 r3 m).1).2
  by_cases g : (sOnly (tk B L) 59 (nP_ (tk B L) t m)).2.1 = 0
  · refine ok_pos (by rw [z1.1, g]; rfl) ?_
    obtain ⟨y1, y2, _, _⟩ := sOnly_ok g
    obtain ⟨y3, _, _, _⟩ := nP_ok y1
    rw [y3] at y2
    have y2 : tk B L (t + 2 + m) = 59 := y2
    refine hgood Z g z1 (tkM_fr xt (z2 3 (by decide)) (z2 4 (by decide)) (z2 5 (by decide)) (z4 6 (by decide))) z2 (fun s s1 s2 s3 s4 s5 s6 => (z3 s s1 s2 s3 s6).trans (x0 s s1 s2 s3 s4 s5)) (fun q hq => by rw [z4 q hq, x2]) (z5 g).1 (z5 g).2 ?_
    have := wM_skip (xw y1) (not_bad (by omega) (by omega))
    rw [show t + 2 + m + 1 = t + 3 + m by omega] at this
    exact wM_fr this (z3 15 (by decide) (by decide) (by decide) (by decide)) (z3 16 (by decide) (by decide) (by decide) (by decide))
  · refine ok_neg (by rw [z1.1]; exact nI_ne0 (by omega) (by omega)) (ok_s (hbad Z g z1 z2 (fun s s1 s2 => (z3 s (by omega) (by omega) (by omega) s2).trans (x0 s (by omega) (by omega) (by omega) (by omega) (by omega))) (fun q hq => by rw [z4 q hq, x2])))
