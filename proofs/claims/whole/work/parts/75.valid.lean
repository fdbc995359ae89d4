/-! what a text without faults tells is as told -/
theorem hdT_in {K : Nat → Nat} : ∀ i j, hdT K i ≤ j → j ≤ i → hdT K j = hdT K i
  | 0, j, _, h2 => by rw [show j = 0 by omega]
  | i + 1, j, h1, h2 => by
    by_cases e : j = i + 1
    · rw [e]
    · rw [hdT] at h1 ⊢
      by_cases g : K i = 59
      · rw [if_pos g] at h1; omega
      · rw [if_neg g] at h1 ⊢
        exact hdT_in i j h1 (by omega)
theorem fit_of {K V : Nat → Nat} {E : Nat → Nat → Prop} {i h : Nat} (hh : hdT K i = h) (hn : ∀ d, ¬ isBad K V E i d) (hk : K i = 23) : fitP (K h) (i - h) (V i) := by
  subst hh
  exact Classical.byContradiction (fun z => hn 5 (Or.inr ⟨rfl, hk, z⟩))
theorem vD_N {D : Nat → Nat → Nat} {a b c d e f : Nat} (h : vD D) (hn : D 9 0 < 8) (h1 : a ≤ 1) (h2 : b ≤ 999) (h3 : a = 1 → 0 < c) (h4 : c ≤ 999) (h5 : 0 < d) (h6 : d ≤ 99) (h7 : e ≤ 99) (h8 : f ≤ 99) : vD (addN D a b c d e f) := by
  obtain ⟨a0, a1, a2, a3, a4, a5, a6, a7, a8⟩ := h
  refine ⟨by rw [addN_0]; omega, by rw [addN_9 (by decide)]; exact a1, by rw [addN_9 (by decide)]; exact a2, by rw [addN_9 (by decide)]; exact a3, by rw [addN_9 (by decide)]; exact a4, by rw [addN_9 (by decide)]; exact a5, fun k hk => ?_, fun p hp => ?_, fun s hs => ?_⟩
  · rw [addN_0] at hk
    by_cases ek : k = D 9 0
    · subst ek
      rw [addN_n (by decide) (by decide), addN_n (by decide) (by decide), addN_n (by decide) (by decide), addN_n (by decide) (by decide), addN_n (by decide) (by decide), addN_n (by decide) (by decide)]
      exact ⟨h1, h2, h3, h4, h5, h6, h7, h8⟩
    · rw [addN_lo (by decide) ek, addN_lo (by decide) ek, addN_lo (by decide) ek, addN_lo (by decide) ek, addN_lo (by decide) ek, addN_lo (by decide) ek]
      exact a6 k (by omega)
  · rw [addN_9 (by decide)] at hp
    rw [addN_hi (by decide)]; exact a7 p hp
  · rw [addN_9 (by decide)] at hs
    rw [addN_hi (by decide), addN_hi (by decide)]; exact a8 s hs
theorem vD_tel {K V : Nat → Nat} {E : Nat → Nat → Prop} {h t' : Nat} {d : dtT} (hV : ∀ i, V i ≤ 9999) (hv : vD d.1) (hsh : shT K V (cnD d.1) h t') (h3 : h + 3 ≤ t') (hh : ∀ i, h ≤ i → i < t' → hdT K i = h) (hb : ∀ i, h ≤ i → i < t' → ∀ c, ¬ isBad K V E i c) : vD (tel K V h d).1 := by
  have ft : ∀ j, h + j < t' → K (h + j) = 23 → fitP (K h) j (V (h + j)) := by
    intro j j1 j2
    have := fit_of (hh (h + j) (by omega) j1) (hb (h + j) (by omega) j1) j2
    rw [Nat.add_sub_cancel_left] at this
    exact this
  unfold tel
  rcases hsh with ⟨g, g1, ⟨_, g2, _⟩, g3⟩ | ⟨g, g1, ⟨_, g2, _⟩, g3⟩ | ⟨g, g1, ⟨_, g2, _⟩, g3⟩ | ⟨g, g1, ⟨_, g2, _⟩, g3⟩ | ⟨g, g1, g2, g3⟩ | ⟨g, g1, g2, g3, g4⟩
  · rw [if_pos g]
    have g1 : d.1 9 0 < 8 := g1
    have f2 := ((ft 2 (by omega) (g2 0 (by decide))).1 g).1 rfl
    have f3 := ((ft 3 (by omega) (g2 1 (by decide))).1 g).2.1 rfl
    have f4 := ((ft 4 (by omega) (g2 2 (by decide))).1 g).2.2 (by decide) (by decide)
    have f5 := ((ft 5 (by omega) (g2 3 (by decide))).1 g).2.2 (by decide) (by decide)
    have f6 := ((ft 6 (by omega) (g2 4 (by decide))).1 g).2.2 (by decide) (by decide)
    exact vD_N hv g1 (by decide) f2 (fun _ => f3.1) f3.2 (f4.2 rfl) f4.1 f5.1 f6.1
  · rw [if_neg (by omega), if_pos g]
    have g1 : d.1 9 0 < 8 := g1
    have f2 := ((ft 2 (by omega) (g2 0 (by decide))).2.1 g).1 rfl
    have f3 := ((ft 3 (by omega) (g2 1 (by decide))).2.1 g).2.1 rfl
    have f4 := ((ft 4 (by omega) (g2 2 (by decide))).2.1 g).2.2 (by decide) (by decide)
    have f5 := ((ft 5 (by omega) (g2 3 (by decide))).2.1 g).2.2 (by decide) (by decide)
    exact vD_N hv g1 (by decide) (by decide) (fun z => absurd z (by decide)) (by omega) (by omega) (by omega) f4 f5
  · rw [if_neg (by omega), if_neg (by omega), if_pos g]
    have g1 : d.1 9 1 < 4 := g1
    have f2 := (ft 2 (by omega) (g2 0 (by decide))).2.2.1 g
    show vD (addP d.1 (V (h + 2)))
    obtain ⟨a0, a1, a2, a3, a4, a5, a6, a7, a8⟩ := hv
    refine ⟨by rw [addP_9 (by decide)]; exact a0, by rw [addP_1]; omega, by rw [addP_9 (by decide)]; exact a2, by rw [addP_9 (by decide)]; exact a3, by rw [addP_9 (by decide)]; exact a4, by rw [addP_9 (by decide)]; exact a5, fun k hk => ?_, fun p hp => ?_, fun s hs => ?_⟩
    · rw [addP_9 (by decide)] at hk
      rw [addP_q (by decide) (Or.inl (by decide)), addP_q (by decide) (Or.inl (by decide)), addP_q (by decide) (Or.inl (by decide)), addP_q (by decide) (Or.inl (by decide)), addP_q (by decide) (Or.inl (by decide)), addP_q (by decide) (Or.inl (by decide))]
      exact a6 k hk
    · rw [addP_1] at hp
      by_cases e : p = d.1 9 1
      · rw [e, addP_n]; exact f2
      · rw [addP_q (by decide) (Or.inr e)]; exact a7 p (by omega)
    · rw [addP_9 (by decide)] at hs
      rw [addP_q (by decide) (Or.inl (by decide)), addP_q (by decide) (Or.inl (by decide))]
      exact a8 s hs
  · rw [if_neg (by omega), if_neg (by omega), if_neg (by omega), if_pos g]
    have g1 : d.1 9 2 < 6 := g1
    have f2 := ((ft 2 (by omega) (g2 0 (by decide))).2.2.2.1 g).1 rfl
    have f3 := ((ft 3 (by omega) (g2 1 (by decide))).2.2.2.1 g).2 (by decide)
    show vD (addS d.1 (V (h + 2)) (V (h + 3)))
    obtain ⟨a0, a1, a2, a3, a4, a5, a6, a7, a8⟩ := hv
    refine ⟨by rw [addS_9 (by decide)]; exact a0, by rw [addS_9 (by decide)]; exact a1, by rw [addS_2]; omega, by rw [addS_9 (by decide)]; exact a3, by rw [addS_9 (by decide)]; exact a4, by rw [addS_9 (by decide)]; exact a5, fun k hk => ?_, fun p hp => ?_, fun s hs => ?_⟩
    · rw [addS_9 (by decide)] at hk
      rw [addS_q (by decide) (Or.inl (by decide)), addS_q (by decide) (Or.inl (by decide)), addS_q (by decide) (Or.inl (by decide)), addS_q (by decide) (Or.inl (by decide)), addS_q (by decide) (Or.inl (by decide)), addS_q (by decide) (Or.inl (by decide))]
      exact a6 k hk
    · rw [addS_9 (by decide)] at hp
      rw [addS_q (by decide) (Or.inl (by decide))]
      exact a7 p hp
    · rw [addS_2] at hs
      by_cases e : s = d.1 9 2
      · rw [e, addS_17, addS_18]; exact ⟨f2.1, f2.2, f3⟩
      · rw [addS_q (by decide) (Or.inr e), addS_q (by decide) (Or.inr e)]; exact a8 s (by omega)
  · rw [if_neg (by omega), if_neg (by omega), if_neg (by omega), if_neg (by omega), if_pos g1]
    exact hv
  · rw [if_neg (by omega), if_neg (by omega), if_neg (by omega), if_neg (by omega), if_neg (by omega), if_pos g1]
    have f1 : K h = 7 → V (h + 1) ≤ 99 := (ft 1 (by omega) g2).2.2.2.2
    have hV1 := hV (h + 1)
    show vD (set9 d.1 (K h + 8) (V (h + 1)))
    obtain ⟨a0, a1, a2, a3, a4, a5, a6, a7, a8⟩ := hv
    have st : ∀ k m, d.1 9 k ≤ m → (k = K h + 8 → V (h + 1) ≤ m) → set9 d.1 (K h + 8) (V (h + 1)) 9 k ≤ m := fun k m m1 m2 => by
      by_cases e : k = K h + 8
      · rw [e, set9_j]; exact m2 e
      · rw [set9_q (Or.inr e)]; exact m1
    refine ⟨st 0 8 a0 (fun z => by omega), st 1 4 a1 (fun z => by omega), st 2 6 a2 (fun z => by omega), st 15 99 a3 (fun z => f1 (by omega)), st 16 9999 a4 (fun _ => hV1), st 17 9999 a5 (fun _ => hV1), fun k hk => ?_, fun p hp => ?_, fun s hs => ?_⟩
    · rw [set9_q (Or.inr (by omega))] at hk
      rw [set9_q (Or.inl (by decide)), set9_q (Or.inl (by decide)), set9_q (Or.inl (by decide)), set9_q (Or.inl (by decide)), set9_q (Or.inl (by decide)), set9_q (Or.inl (by decide))]
      exact a6 k hk
    · rw [set9_q (Or.inr (by omega))] at hp
      rw [set9_q (Or.inl (by decide))]; exact a7 p hp
    · rw [set9_q (Or.inr (by omega))] at hs
      rw [set9_q (Or.inl (by decide)), set9_q (Or.inl (by decide))]; exact a8 s hs
theorem lwf_tel {K V : Nat → Nat} {h t' : Nat} {d : dtT} (hV : ∀ i, V i < 2 ^ 31) (h3 : h + 3 ≤ t') (h4 : t' ≤ 400) (hw : ∀ k, k < 3 → lwf (d.2 k)) (hsh : shT K V (cnD d.1) h t') : ∀ k, k < 3 → lwf ((tel K V h d).2 k) := by
  intro k hk
  unfold tel
  rcases hsh with ⟨g, _⟩ | ⟨g, _⟩ | ⟨g, _⟩ | ⟨g, _⟩ | ⟨g, g1, g2, g3⟩ | ⟨g, g1, _⟩
  · rw [if_pos g]; exact hw k hk
  · rw [if_neg (by omega), if_pos g]; exact hw k hk
  · rw [if_neg (by omega), if_neg (by omega), if_pos g]; exact hw k hk
  · rw [if_neg (by omega), if_neg (by omega), if_neg (by omega), if_pos g]; exact hw k hk
  · rw [if_neg (by omega), if_neg (by omega), if_neg (by omega), if_neg (by omega), if_pos g1]
    show lwf (if k = K h - 4 then (lawR K V 5 (h + 2, 0, 0)).2 else d.2 k)
    by_cases e : k = K h - 4
    · rw [if_pos e]
      exact (lawR_ok (K := K) hV 5 (h + 2, 0, 0) (by show h + 2 ≤ 400; omega) (by rw [g3])).2.2.2.2.2.2.1
    · rw [if_neg e]; exact hw k hk
  · rw [if_neg (by omega), if_neg (by omega), if_neg (by omega), if_neg (by omega), if_neg (by omega), if_pos g1]
    exact hw k hk
theorem dat_v {K V : Nat → Nat} {E : Nat → Nat → Prop} {t : Nat} {c : Nat × Nat × Nat} (hV : ∀ i, V i ≤ 9999) (hg : gdT K V t c) (hb : ∀ i, i < t → ∀ d, ¬ isBad K V E i d) : ∀ i, i ≤ t → vD (dat K V i).1 ∧ ∀ k, k < 3 → lwf ((dat K V i).2 k)
  | 0, _ => ⟨D00_v, lwD_wf⟩
  | i + 1, h => by
    have ih := dat_v hV hg hb i (by omega)
    rw [dat]
    by_cases g : K i = 59
    · rw [if_pos g]
      obtain ⟨s1, s2⟩ := hg.2.2.2.2.2.2.2.2 i (by omega) g
      have h4 := hg.2.1
      exact ⟨vD_tel hV ih.1 s2 s1 (fun j j1 j2 => hdT_in i j j1 (by omega)) (fun j j1 j2 => hb j (by omega)), lwf_tel (fun i => by have := hV i; omega) s1 (by omega) ih.2 s2⟩
    · rw [if_neg g]; exact ih
theorem ps_lt {B : Nat → Nat} {L : Nat} (hL : L ≤ 2000) (hp : ∀ i, i < nT B L → ps B L i < L) {i : Nat} : ∀ d, i + d + 1 < nT B L → ps B L i < ps B L (i + d + 1)
  | 0, h => by
    have h1 := rn_spec (B := B) hL (hp i (by omega))
    have h2 := (nx_spec (B := B) h1.2.1).1
    show ps B L i < nx B L (ps B L i + rn B L (ps B L i))
    omega
  | d + 1, h => by
    have ih := ps_lt hL hp (i := i) d (by omega)
    have h1 := rn_spec (B := B) hL (hp (i + d + 1) (by omega))
    have h2 := (nx_spec (B := B) h1.2.1).1
    show ps B L i < nx B L (ps B L (i + d + 1) + rn B L (ps B L (i + d + 1)))
    omega
theorem tp_lt {B : Nat → Nat} {L i j : Nat} (hL : L ≤ 2000) (hp : ∀ i, i < nT B L → ps B L i < L) (h : i < j) (hj : j < nT B L) : tp B L i < tp B L j := by
  unfold tp
  rw [if_pos (by omega), if_pos hj]
  have := ps_lt hL hp (i := i) (j - i - 1) (by omega)
  rw [show i + (j - i - 1) + 1 = j by omega] at this
  exact this
