/-! what a text tells, token by token; the class's check -/
def addN (D : Nat → Nat → Nat) (a b c d e f : Nat) : Nat → Nat → Nat := fun q k => if q = 9 ∧ k = 0 then D 9 0 + 1 else if k = D 9 0 ∧ 10 ≤ q ∧ q ≤ 15 then (if q = 10 then a else if q = 11 then b else if q = 12 then c else if q = 13 then d else if q = 14 then e else f) else D q k
def addP (D : Nat → Nat → Nat) (a : Nat) : Nat → Nat → Nat := fun q k => if q = 9 ∧ k = 1 then D 9 1 + 1 else if k = D 9 1 ∧ q = 16 then a else D q k
def addS (D : Nat → Nat → Nat) (a b : Nat) : Nat → Nat → Nat := fun q k => if q = 9 ∧ k = 2 then D 9 2 + 1 else if k = D 9 2 ∧ q = 17 then a else if k = D 9 2 ∧ q = 18 then b else D q k
def set9 (D : Nat → Nat → Nat) (j a : Nat) : Nat → Nat → Nat := fun q k => if q = 9 ∧ k = j then a else D q k
abbrev dtT := (Nat → Nat → Nat) × (Nat → List lwB)
def tel (K V : Nat → Nat) (h : Nat) (d : dtT) : dtT :=
  if K h = 0 then (addN d.1 1 (V (h + 2)) (V (h + 3)) (V (h + 4)) (V (h + 5)) (V (h + 6)), d.2)
  else if K h = 1 then (addN d.1 0 0 (V (h + 2)) (V (h + 3)) (V (h + 4)) (V (h + 5)), d.2)
  else if K h = 2 then (addP d.1 (V (h + 2)), d.2)
  else if K h = 3 then (addS d.1 (V (h + 2)) (V (h + 3)), d.2)
  else if K h ≤ 6 then (d.1, fun k => if k = K h - 4 then (lawR K V 5 (h + 2, 0, 0)).2 else d.2 k)
  else if K h ≤ 9 then (set9 d.1 (K h + 8) (V (h + 1)), d.2) else d
def dat (K V : Nat → Nat) : Nat → dtT
  | 0 => (D00, lwD)
  | i + 1 => if K i = 59 then tel K V (hdT K i) (dat K V i) else dat K V i
def cnD (D : Nat → Nat → Nat) : Nat × Nat × Nat := (D 9 0, D 9 1, D 9 2)
theorem hdT_rg {K : Nat → Nat} {a : Nat} : ∀ d, (∀ i, a ≤ i → i < a + d → K i ≠ 59) → hdT K (a + d) = hdT K a
  | 0, _ => rfl
  | d + 1, h => by
    rw [← Nat.add_assoc, hdT, if_neg (h (a + d) (by omega) (by omega))]
    exact hdT_rg d (fun i i1 i2 => h i i1 (by omega))
theorem dat_rg {K V : Nat → Nat} {a : Nat} : ∀ d, (∀ i, a ≤ i → i < a + d → K i ≠ 59) → dat K V (a + d) = dat K V a
  | 0, _ => rfl
  | d + 1, h => by
    rw [← Nat.add_assoc, dat, if_neg (h (a + d) (by omega) (by omega))]
    exact dat_rg d (fun i i1 i2 => h i i1 (by omega))
theorem nN_rg {K : Nat → Nat} {a : Nat} : ∀ d, (∀ i, a ≤ i → i < a + d → K i ≠ 22) → nN K (a + d) = nN K a
  | 0, _ => rfl
  | d + 1, h => by
    rw [← Nat.add_assoc, nN, if_neg (h (a + d) (by omega) (by omega))]
    exact nN_rg d (fun i i1 i2 => h i i1 (by omega))
theorem tel_cn {K V : Nat → Nat} {h : Nat} {d : dtT} : cnD (tel K V h d).1 = cntS (K h) (cnD d.1) := by
  unfold tel cntS
  by_cases g0 : K h = 0
  · rw [if_pos g0, if_pos (Or.inl g0)]; simp [cnD, addN]
  rw [if_neg g0]
  by_cases g1 : K h = 1
  · rw [if_pos g1, if_pos (Or.inr g1)]; simp [cnD, addN]
  rw [if_neg g1, if_neg (show ¬ (K h = 0 ∨ K h = 1) by omega)]
  by_cases g2 : K h = 2
  · rw [if_pos g2, if_pos g2]; simp [cnD, addP]
  rw [if_neg g2, if_neg g2]
  by_cases g3 : K h = 3
  · rw [if_pos g3, if_pos g3]; simp [cnD, addS]
  rw [if_neg g3, if_neg g3]
  by_cases g6 : K h ≤ 6
  · rw [if_pos g6]
  rw [if_neg g6]
  by_cases g9 : K h ≤ 9
  · rw [if_pos g9]
    have a0 : ¬ ((9 : Nat) = 9 ∧ 0 = K h + 8) := fun z => by have := z.2; omega
    have a1 : ¬ ((9 : Nat) = 9 ∧ 1 = K h + 8) := fun z => by have := z.2; omega
    have a2 : ¬ ((9 : Nat) = 9 ∧ 2 = K h + 8) := fun z => by have := z.2; omega
    show (set9 d.1 (K h + 8) (V (h + 1)) 9 0, set9 d.1 (K h + 8) (V (h + 1)) 9 1, set9 d.1 (K h + 8) (V (h + 1)) 9 2) = cnD d.1
    unfold set9
    rw [if_neg a0, if_neg a1, if_neg a2]
    rfl
  · rw [if_neg g9]
/-- up to t all is well, and a TELL begins there -/
def gdT (K V : Nat → Nat) (t : Nat) (c : Nat × Nat × Nat) : Prop := hdT K t = t ∧ t ≤ 400 ∧ c = cnD (dat K V t).1 ∧ c.1 ≤ 8 ∧ c.2.1 ≤ 4 ∧ c.2.2 ≤ 6 ∧ nN K t = c.1 + c.2.1 + c.2.2 ∧ (∀ i, i < t → K i ≠ 24) ∧ (∀ i, i < t → K i = 59 → hdT K i + 3 ≤ i + 1 ∧ shT K V (cnD (dat K V i).1) (hdT K i) (i + 1))
theorem gdT_0 {K V : Nat → Nat} : gdT K V 0 (0, 0, 0) := ⟨rfl, by decide, rfl, by decide, by decide, by decide, rfl, fun i hi => absurd hi (Nat.not_lt_zero _), fun i hi => absurd hi (Nat.not_lt_zero _)⟩
theorem gdT_in {K V : Nat → Nat} {c : Nat × Nat × Nat} {t t' : Nat} (hV : ∀ i, V i < 2 ^ 31) (h0 : hdT K t = t) (ht : t + 3 ≤ t') (ht' : t' ≤ 400) (h : shT K V c t t') : (∀ i, t ≤ i → i < t' → hdT K i = t ∧ dat K V i = dat K V t) ∧ hdT K t' = t' ∧ dat K V t' = tel K V t (dat K V t) ∧ nN K t' = nN K t + (if K t ≤ 3 then 1 else 0) := by
  obtain ⟨s1, s2, s3, s4, s5⟩ := shT_tok hV ht ht' h
  have rg : ∀ i, t ≤ i → i < t' → hdT K i = t ∧ dat K V i = dat K V t := by
    intro i i1 i2
    have e1 := hdT_rg (K := K) (a := t) (i - t) (fun k k1 k2 => (s2 k k1 (by omega)).1)
    have e2 := dat_rg (K := K) (V := V) (a := t) (i - t) (fun k k1 k2 => (s2 k k1 (by omega)).1)
    rw [show t + (i - t) = i by omega] at e1 e2
    exact ⟨e1.trans h0, e2⟩
  refine ⟨rg, ?_, ?_, ?_⟩
  · rw [show t' = (t' - 1) + 1 by omega, hdT, if_pos s1]
  · rw [show t' = (t' - 1) + 1 by omega, dat, if_pos s1, (rg (t' - 1) (by omega) (by omega)).1, (rg (t' - 1) (by omega) (by omega)).2]
  · by_cases g : K t ≤ 3
    · rw [if_pos g]
      have e := nN_rg (K := K) (a := t + 2) (t' - (t + 2)) (fun k k1 k2 z => by have := (s3 k (by omega) (by omega) z).1; omega)
      rw [show t + 2 + (t' - (t + 2)) = t' by omega] at e
      rw [e, show t + 2 = (t + 1) + 1 from rfl, nN, if_pos (s4 g), nN, if_neg (by omega)]
    · rw [if_neg g]
      have e := nN_rg (K := K) (a := t) (t' - t) (fun k k1 k2 z => g (s3 k k1 (by omega) z).2)
      rw [show t + (t' - t) = t' by omega] at e
      exact e
theorem gdT_step {K V : Nat → Nat} {c : Nat × Nat × Nat} {t t' : Nat} (hV : ∀ i, V i < 2 ^ 31) (hg : gdT K V t c) (ht : t + 3 ≤ t') (ht' : t' ≤ 400) (h : shT K V c t t') : gdT K V t' (cntS (K t) c) := by
  obtain ⟨a1, a2, a3, a4, a5, a6, a7, a8, a9⟩ := hg
  obtain ⟨b1, b2, b3, b4⟩ := gdT_in hV a1 ht ht' h
  obtain ⟨s1, s2, s3, s4, s5⟩ := shT_tok hV ht ht' h
  have hcn : cntS (K t) c = cnD (dat K V t').1 := by rw [b3, tel_cn, ← a3]
  have cn : (K t = 0 ∧ c.1 < 8 ∧ cntS (K t) c = (c.1 + 1, c.2)) ∨ (K t = 1 ∧ c.1 < 8 ∧ cntS (K t) c = (c.1 + 1, c.2)) ∨ (K t = 2 ∧ c.2.1 < 4 ∧ cntS (K t) c = (c.1, c.2.1 + 1, c.2.2)) ∨ (K t = 3 ∧ c.2.2 < 6 ∧ cntS (K t) c = (c.1, c.2.1, c.2.2 + 1)) ∨ (¬ K t ≤ 3 ∧ cntS (K t) c = c) := by
    unfold cntS
    rcases h with ⟨g, g1, _⟩ | ⟨g, g1, _⟩ | ⟨g, g1, _⟩ | ⟨g, g1, _⟩ | ⟨g, _⟩ | ⟨g, _⟩
    · exact Or.inl ⟨g, g1, by rw [if_pos (Or.inl g)]⟩
    · exact Or.inr (Or.inl ⟨g, g1, by rw [if_pos (Or.inr g)]⟩)
    · exact Or.inr (Or.inr (Or.inl ⟨g, g1, by rw [if_neg (by omega), if_pos g]⟩))
    · exact Or.inr (Or.inr (Or.inr (Or.inl ⟨g, g1, by rw [if_neg (by omega), if_neg (by omega), if_pos g]⟩)))
    · exact Or.inr (Or.inr (Or.inr (Or.inr ⟨by omega, by rw [if_neg (by omega), if_neg (by omega), if_neg (by omega)]⟩)))
    · exact Or.inr (Or.inr (Or.inr (Or.inr ⟨by omega, by rw [if_neg (by omega), if_neg (by omega), if_neg (by omega)]⟩)))
  have cnx : (cntS (K t) c).1 ≤ 8 ∧ (cntS (K t) c).2.1 ≤ 4 ∧ (cntS (K t) c).2.2 ≤ 6 ∧ nN K t' = (cntS (K t) c).1 + (cntS (K t) c).2.1 + (cntS (K t) c).2.2 := by
    rcases cn with ⟨g, g1, g2⟩ | ⟨g, g1, g2⟩ | ⟨g, g1, g2⟩ | ⟨g, g1, g2⟩ | ⟨g, g2⟩
    · rw [g2, b4, if_pos (by omega)]; refine ⟨g1, a5, a6, ?_⟩; show nN K t + 1 = c.1 + 1 + c.2.1 + c.2.2; omega
    · rw [g2, b4, if_pos (by omega)]; refine ⟨g1, a5, a6, ?_⟩; show nN K t + 1 = c.1 + 1 + c.2.1 + c.2.2; omega
    · rw [g2, b4, if_pos (by omega)]; refine ⟨a4, g1, a6, ?_⟩; show nN K t + 1 = c.1 + (c.2.1 + 1) + c.2.2; omega
    · rw [g2, b4, if_pos (by omega)]; refine ⟨a4, a5, g1, ?_⟩; show nN K t + 1 = c.1 + c.2.1 + (c.2.2 + 1); omega
    · rw [g2, b4, if_neg g]; exact ⟨a4, a5, a6, a7⟩
  refine ⟨b2, ht', hcn, cnx.1, cnx.2.1, cnx.2.2.1, cnx.2.2.2, fun i hi => ?_, fun i hi hk => ?_⟩
  · by_cases e : i < t
    · exact a8 i e
    · by_cases e2 : i + 1 < t'
      · exact (s2 i (by omega) e2).2
      · rw [show i = t' - 1 by omega, s1]; decide
  · by_cases e : i < t
    · exact a9 i e hk
    · by_cases e2 : i + 1 < t'
      · exact absurd hk (s2 i (by omega) e2).1
      · have ei : i + 1 = t' := by omega
        obtain ⟨r1, r2⟩ := b1 i (by omega) (by omega)
        rw [r1, r2, ei, ← a3]
        exact ⟨ht, h⟩
theorem tR_f {K V : Nat → Nat} {p : pst} (h : p.2.1 ≠ 0 ∨ K p.1 = 24) : ∀ n c, tR K V n c p = p
  | 0, _ => rfl
  | n + 1, c => by
    rw [tR, if_neg]
    intro z
    rcases h with h | h
    · exact h z.1
    · exact z.2 h
theorem tR_ok {K V : Nat → Nat} (hV : ∀ i, V i < 2 ^ 31) : ∀ (n : Nat) (c : Nat × Nat × Nat) (t : Nat), gdT K V t c → 401 ≤ n + t → (tR K V n c (t, 0, 0)).2.1 = 0 → ∃ t' c', tR K V n c (t, 0, 0) = (t', 0, 0) ∧ gdT K V t' c' ∧ K t' = 24 := by
  intro n
  induction n with
  | zero => intro c t hg hn; have := hg.2.1; omega
  | succ n ih =>
    intro c t hg hn h
    rw [tR] at h ⊢
    by_cases g : K t = 24
    · rw [if_neg (fun z => z.2 g)]
      exact ⟨t, c, rfl, hg, g⟩
    · rw [if_pos (show ((t, 0, 0) : pst).2.1 = 0 ∧ K ((t, 0, 0) : pst).1 ≠ 24 from ⟨rfl, g⟩)] at h ⊢
      by_cases g1 : (tellS K V c (t, 0, 0)).2.1 = 0
      · obtain ⟨t1, e1, e2, e3, e4⟩ := tellS_ok hV g1
        rw [e1] at h ⊢
        exact ih _ _ (gdT_step hV hg e2 e3 e4) (by omega) h
      · rw [tR_f (Or.inl g1)] at h
        exact absurd h g1
/-- a fault's token -/
def fiT (p : pst) : Prop := p.1 ≤ 400 ∧ (p.2.1 ≠ 0 → p.2.2 ≤ 400)
theorem sRef_fi {c : Nat} {p : pst} (h : fiT p) : fiT (sRef c p) := by
  unfold sRef
  split
  · exact ⟨h.1, fun _ => h.1⟩
  · exact h
theorem sPass_fi {p : pst} (h : fiT p) : fiT (sPass p) := by
  unfold sPass
  split
  · exact ⟨by show p.1 + 1 ≤ 400; omega, h.2⟩
  · exact sRef_fi h
theorem sOnly_fi {K : Nat → Nat} {k : Nat} {p : pst} (h : fiT p) : fiT (sOnly K k p) := by
  unfold sOnly
  split
  · split
    · exact sPass_fi h
    · exact sRef_fi h
  · exact h
theorem eBody_fi {K V : Nat → Nat} {F : Bool → List Nat → lwC → pst × lwC} {w : Bool} {st : List Nat} {out : lwC} {t : Nat} (ht : t ≤ 400) (hF : ∀ w2 st2 outa, fiT (F w2 st2 outa).1) : fiT (eBody K V F w st out t).1 := by
  have a0 : fiT (t, 0, 0) := ⟨ht, fun z => absurd rfl z⟩
  have a1 : fiT (t, 1, t) := ⟨ht, fun _ => ht⟩
  have a2 : fiT (t, 2, t) := ⟨ht, fun _ => ht⟩
  unfold eBody
  by_cases h : w = true
  · rw [if_pos h]
    by_cases g1 : K t = 40
    · rw [if_pos g1]
      by_cases g2 : nO st = 6
      · rw [if_pos g2]; exact a2
      · rw [if_neg g2]; exact hF _ _ _
    rw [if_neg g1]
    by_cases g2 : K t = 23
    · rw [if_pos g2]; exact hF _ _ _
    rw [if_neg g2]
    by_cases g3 : 13 ≤ K t ∧ K t ≤ 21
    · rw [if_pos g3]; exact hF _ _ _
    · rw [if_neg g3]; exact a1
  · rw [if_neg h]
    by_cases g1 : isop (K t) = true
    · rw [if_pos g1]; exact hF _ _ _
    rw [if_neg g1]
    by_cases g2 : K t = 41 ∧ 0 < nO st
    · rw [if_pos g2]; exact hF _ _ _
    rw [if_neg g2]
    by_cases g3 : nO st = 0
    · rw [if_pos g3]; exact a0
    · rw [if_neg g3]; exact a1
theorem eR_fi {K V : Nat → Nat} : ∀ (n : Nat) (w : Bool) (st : List Nat) (out : lwC) (t : Nat), t + n = 400 → fiT (eR K V w st out t).1 := by
  intro n
  induction n with
  | zero =>
    intro w st out t h
    have a2 : fiT (t, 2, t) := ⟨by show t ≤ 400; omega, fun _ => by show t ≤ 400; omega⟩
    rw [eR_s (by omega)]
    refine eBody_fi (by omega) (fun w2 st2 outa => ?_)
    rw [nx_ge (by omega)]
    exact a2
  | succ n ih =>
    intro w st out t h
    rw [eR_s (by omega)]
    refine eBody_fi (by omega) (fun w2 st2 outa => ?_)
    rw [nx_lt (by omega)]
    exact ih _ _ _ _ (by omega)
theorem sX_fi {K V : Nat → Nat} {p : pst} (h : fiT p) : fiT (sX K V p).1 := by
  unfold sX
  have := h.1
  by_cases g : p.2.1 = 0
  · rw [if_pos g]; exact eR_fi (400 - p.1) _ _ _ _ (by omega)
  · rw [if_neg g]; exact h
theorem lawR_fi {K V : Nat → Nat} : ∀ (n : Nat) (p : pst), fiT p → fiT (lawR K V n p).1
  | 0, p, h => sRef_fi h
  | n + 1, p, h => by
    rw [lawR]
    by_cases g : p.2.1 = 0 ∧ K p.1 = 10
    · rw [if_pos g]
      by_cases g0 : n = 0
      · rw [if_pos g0]; exact sRef_fi h
      · rw [if_neg g0]; exact lawR_fi n _ (sOnly_fi (sX_fi (sOnly_fi (sX_fi (sOnly_fi (sX_fi (sPass_fi h)))))))
    · rw [if_neg g]; exact sOnly_fi (sX_fi h)
theorem its_fi {K : Nat → Nat} : ∀ (m : Nat) (p : pst), fiT p → fiT (its K m p)
  | 0, _, h => h
  | m + 1, _, h => its_fi m _ (sOnly_fi h)
theorem tellS_fi {K V : Nat → Nat} {c : Nat × Nat × Nat} {p : pst} (h : fiT p) : fiT (tellS K V c p) := by
  have nam : ∀ m a b, fiT (nmd K m (roomS a b p)) := by
    intro m a b
    refine sOnly_fi (its_fi m _ (sOnly_fi (sPass_fi ?_)))
    unfold roomS
    split
    · exact h
    · exact sRef_fi h
  unfold tellS
  by_cases g0 : K p.1 = 0
  · rw [if_pos g0]; exact nam _ _ _
  rw [if_neg g0]
  by_cases g1 : K p.1 = 1
  · rw [if_pos g1]; exact nam _ _ _
  rw [if_neg g1]
  by_cases g2 : K p.1 = 2
  · rw [if_pos g2]; exact nam _ _ _
  rw [if_neg g2]
  by_cases g3 : K p.1 = 3
  · rw [if_pos g3]; exact nam _ _ _
  rw [if_neg g3]
  by_cases g6 : K p.1 ≤ 6
  · rw [if_pos g6]; exact lawR_fi 5 _ (sOnly_fi (sPass_fi h))
  rw [if_neg g6]
  by_cases g9 : K p.1 ≤ 9
  · rw [if_pos g9]; exact sOnly_fi (sOnly_fi (sPass_fi h))
  · rw [if_neg g9]; exact sRef_fi h
theorem tR_fiT {K V : Nat → Nat} : ∀ (n : Nat) (c : Nat × Nat × Nat) (p : pst), fiT p → fiT (tR K V n c p)
  | 0, _, _, h => h
  | n + 1, c, p, h => by
    rw [tR]
    split
    · exact tR_fiT n _ _ (tellS_fi h)
    · exact h
theorem tR_fi {K V : Nat → Nat} (n : Nat) (c : Nat × Nat × Nat) (p : pst) (h1 : p.1 ≤ 400) (h2 : p.2.1 = 0) : (tR K V n c p).2.1 ≠ 0 → (tR K V n c p).2.2 ≤ 400 := (tR_fiT n c p ⟨h1, fun z => absurd h2 z⟩).2
/-- what both sides answer of a text's faults -/
def chk (K V : Nat → Nat) (E : Nat → Nat → Prop) (n c i : Nat) : Prop := ((tR K V 401 (0, 0, 0) (0, 0, 0)).2.1 ≠ 0 ∧ c = (tR K V 401 (0, 0, 0) (0, 0, 0)).2.1 ∧ i = (tR K V 401 (0, 0, 0) (0, 0, 0)).2.2) ∨ ((tR K V 401 (0, 0, 0) (0, 0, 0)).2.1 = 0 ∧ wS K V E n c i)
theorem chk_u {K V : Nat → Nat} {E : Nat → Nat → Prop} {n c i c' i' : Nat} (h : chk K V E n c i) (h' : chk K V E n c' i') : c = c' ∧ (c ≠ 0 → i = i') := by
  rcases h with ⟨h1, h2, h3⟩ | ⟨h1, h2⟩
  · rcases h' with ⟨g1, g2, g3⟩ | ⟨g1, g2⟩
    · exact ⟨h2.trans g2.symm, fun _ => h3.trans g3.symm⟩
    · exact absurd g1 h1
  · rcases h' with ⟨g1, g2, g3⟩ | ⟨g1, g2⟩
    · exact absurd h1 g1
    · exact wS_u h2 g2
theorem end_nT {B : Nat → Nat} {L t : Nat} {c : Nat × Nat × Nat} {V : Nat → Nat} (hg : gdT (tk B L) V t c) (h : tk B L t = 24) : t = nT B L := by
  have h1 := tk_24.mp h
  rcases Nat.lt_or_ge (nT B L) t with z | z
  · exact absurd (tk_24.mpr (Nat.le_refl _)) (hg.2.2.2.2.2.2.2.1 (nT B L) z)
  · omega
theorem checkC {B : Nat → Nat} {L : Nat} {S : qv_St} (hL : L ≤ 2000) (hp : ∀ i, i < nT B L → ps B L i < L) (ht : tkC' B L S) : okk (fX4_check S) (fun Z => ∃ c i, chk (tk B L) (tvn B L) (smN B L) (nT B L) c i ∧ c ≤ 5 ∧ Z.1 7 8 = nI c ∧ Z.1 7 9 = (if c = 0 then -1 else nI (tp B L i)) ∧ (∀ q, q ≠ 7 → Z.1 q = S.1 q) ∧ (∀ q, q ≠ 8 → Z.2 q = S.2 q)) := by
  have hV : ∀ i, tvn B L i < 2 ^ 31 := fun i => by have := tvn_lt hL hp i; omega
  have h401 := ht.2.2.2.1
  unfold fX4_check
  have hN5 := qN
  generalize qv_N = N at hN5 ⊢
  refine ok_b (fun X => X.1 7 8 = 0 ∧ (∀ q, q ≠ 7 → X.1 q = S.1 q) ∧ X.2 = S.2) ⟨by rw [qs_si, qs_eq, upd_eq], fun q hq => by rw [qs_si, qs_ne hq], rfl⟩ ?_
  rintro X1 ⟨a1, a2, a3⟩
  refine ok_b (fun X => X.1 7 8 = 0 ∧ X.1 7 6 = 0 ∧ (∀ q, q ≠ 7 → X.1 q = S.1 q) ∧ X.2 = S.2) ⟨by rw [qs_si, qs_eq, upd_ne (by decide)]; exact a1, by rw [qs_si, qs_eq, upd_eq], fun q hq => by rw [qs_si, qs_ne hq]; exact a2 q hq, a3⟩ ?_
  rintro X2 ⟨b1, b2, b3, b4⟩
  refine ok_b (fun X => X = qv_si X2 7 3 0) rfl ?_
  rintro X3 hX3
  refine ok_b (fun X => X = qv_si X3 7 4 0) rfl ?_
  rintro X4 hX4
  refine ok_b (fun X => X.1 7 8 = 0 ∧ X.1 7 6 = 0 ∧ cC (0, 0, 0) X ∧ (∀ q, q ≠ 7 → X.1 q = S.1 q) ∧ X.2 = S.2) ⟨?_, ?_, ⟨?_, ?_, ?_⟩, fun q hq => ?_, ?_⟩ ?_
  · rw [qs_si, qs_eq, upd_ne (by decide), hX4, qs_si, qs_eq, upd_ne (by decide), hX3, qs_si, qs_eq, upd_ne (by decide)]; exact b1
  · rw [qs_si, qs_eq, upd_ne (by decide), hX4, qs_si, qs_eq, upd_ne (by decide), hX3, qs_si, qs_eq, upd_ne (by decide)]; exact b2
  · rw [qs_si, qs_eq, upd_ne (by decide), hX4, qs_si, qs_eq, upd_ne (by decide), hX3, qs_si, qs_eq, upd_eq]; rfl
  · rw [qs_si, qs_eq, upd_ne (by decide), hX4, qs_si, qs_eq, upd_eq]; rfl
  · rw [qs_si, qs_eq, upd_eq]; rfl
  · rw [qs_si, qs_ne hq, hX4, qs_si, qs_ne hq, hX3, qs_si, qs_ne hq]; exact b3 q hq
  · rw [hX4, hX3]; exact b4
  rintro X5 ⟨d8, d6, dc, dq, d2⟩
  generalize hR : tR (tk B L) (tvn B L) 401 (0, 0, 0) (0, 0, 0) = R
  refine ok_jj (fun (K1 : qv_St → Option qv_St) => ∀ T, lC R T → pWf R → (R.2.1 = 0 → ∃ t c, R = (t, 0, 0) ∧ gdT (tk B L) (tvn B L) t c ∧ tk B L t = 24) → (∀ q, q ≠ 7 → T.1 q = S.1 q) → T.2 = S.2 → okk (K1 T) (fun Z => ∃ c i, chk (tk B L) (tvn B L) (smN B L) (nT B L) c i ∧ c ≤ 5 ∧ Z.1 7 8 = nI c ∧ Z.1 7 9 = (if c = 0 then -1 else nI (tp B L i)) ∧ (∀ q, q ≠ 7 → Z.1 q = S.1 q) ∧ (∀ q, q ≠ 8 → Z.2 q = S.2 q))) ?_ ?_
  · intro T tl tw tg tq t2
    have htT : tkC' B L T := tkC_fr ht (tq 3 (by decide)) (tq 4 (by decide)) (tq 5 (by decide)) (by rw [t2])
    refine ok_jj (fun (K2 : qv_St → Option qv_St) => ∀ U c i, chk (tk B L) (tvn B L) (smN B L) (nT B L) c i → c ≤ 5 → U.1 7 8 = nI c → (c ≠ 0 → U.1 7 7 = nI i ∧ i ≤ 401) → (∀ q, q ≠ 7 → U.1 q = S.1 q) → (∀ q, q ≠ 8 → U.2 q = S.2 q) → okk (K2 U) (fun Z => ∃ c i, chk (tk B L) (tvn B L) (smN B L) (nT B L) c i ∧ c ≤ 5 ∧ Z.1 7 8 = nI c ∧ Z.1 7 9 = (if c = 0 then -1 else nI (tp B L i)) ∧ (∀ q, q ≠ 7 → Z.1 q = S.1 q) ∧ (∀ q, q ≠ 8 → Z.2 q = S.2 q))) ?_ ?_
    · intro U c i uc u5 u8 u7 uq u2
      have htU : tkC' B L U := tkC_fr ht (uq 3 (by decide)) (uq 4 (by decide)) (uq 5 (by decide)) (u2 6 (by decide))
      simp only [qj_e, qb_e]
      have fin : ∀ x : Int32, x = (if c = 0 then -1 else nI (tp B L i)) → okk (some (qv_si U 7 9 x)) (fun Z => ∃ c i, chk (tk B L) (tvn B L) (smN B L) (nT B L) c i ∧ c ≤ 5 ∧ Z.1 7 8 = nI c ∧ Z.1 7 9 = (if c = 0 then -1 else nI (tp B L i)) ∧ (∀ q, q ≠ 7 → Z.1 q = S.1 q) ∧ (∀ q, q ≠ 8 → Z.2 q = S.2 q)) := by
        intro x hx
        refine ok_s ⟨c, i, uc, u5, ?_, ?_, fun q hq => ?_, u2⟩
        · rw [qs_si, qs_eq, upd_ne (by decide)]; exact u8
        · rw [qs_si, qs_eq, upd_eq]; exact hx
        · rw [qs_si, qs_ne hq]; exact uq q hq
      by_cases g : c = 0
      · exact ok_pos (by rw [u8, g]; rfl) (fin _ (by rw [if_pos g]))
      · refine ok_neg (by rw [u8]; exact nI_ne0 (by omega) (by omega)) ?_
        rw [(u7 g).1, placeAtC htU (by have := (u7 g).2; omega), Option.bind_some]
        exact fin _ (by rw [if_neg g])
    · intro K2 hK2
      by_cases g : R.2.1 = 0
      · refine ok_pos (by rw [tl.1, g]; rfl) ?_
        obtain ⟨t, c, e1, e2, e3⟩ := tg g
        have e4 := end_nT e2 e3
        have hn : nN (tk B L) (nT B L) ≤ 18 := by
          obtain ⟨q1, q2, q3, q4, q5, q6, q7, q8, q9⟩ := e2
          rw [← e4, q7]; omega
        refine ok_bd (walk2C hL hp htT (by rw [tl.1, g]; rfl) hn) ?_
        rintro U ⟨c, i, w1, w2, w3, w4, w5⟩
        refine hK2 U c i (Or.inr ⟨by rw [hR]; exact g, w1⟩) w2 w3 (fun z => ⟨w4 z, ?_⟩) (fun q hq => (w5.1 q hq).trans (tq q hq)) (fun q hq => by rw [w5.2.2 q hq, t2])
        rcases w1 with ⟨w1, _⟩ | ⟨_, w1, _⟩
        · exact absurd w1 z
        · omega
      · have h5 := tw.2
        refine ok_neg (by rw [tl.1]; exact nI_ne0 (by omega) (by omega)) ?_
        have hf := tR_fi (K := tk B L) (V := tvn B L) 401 (0, 0, 0) (0, 0, 0) (Nat.zero_le _) rfl
        rw [hR] at hf
        exact hK2 T R.2.1 R.2.2 (Or.inl ⟨by rw [hR]; exact g, by rw [hR], by rw [hR]⟩) h5 tl.1 (fun _ => ⟨tl.2.2 g, by have := hf g; omega⟩) tq (fun q _ => by rw [t2])
  · intro K1 hK1
    refine ok_lp2 (fun n T x => ∃ (j m : Nat) (p : pst) (c : Nat × Nat × Nat), n = 401 - j ∧ x = nI j ∧ j ≤ 400 ∧ lC p T ∧ pWf p ∧ cC c T ∧ tR (tk B L) (tvn B L) m c p = R ∧ fcT X5 T ∧ (p.2.1 = 0 → p = (p.1, 0, 0) ∧ gdT (tk B L) (tvn B L) p.1 c ∧ 401 ≤ m + p.1 ∧ 3 * j ≤ p.1)) ?_ N 401 X5 0 ⟨0, 401, (0, 0, 0), (0, 0, 0), rfl, rfl, by decide, ⟨d8, fun _ => d6, fun z => absurd rfl z⟩, ⟨Nat.zero_le _, Nat.zero_le _⟩, dc, hR, fcT_rfl, fun _ => ⟨rfl, gdT_0, Nat.le_refl _, Nat.zero_le _⟩⟩ (by omega)
    rintro self n T x ⟨j, m, p, c, rfl, rfl, hj, pl, pw, pc, pR, pf, pk⟩ ih
    have h5 := pw.2
    have tq : ∀ q, q ≠ 7 → T.1 q = S.1 q := fun q hq => (pf.1 q hq).trans (dq q hq)
    have t2 : T.2 = S.2 := pf.2.2.trans d2
    have htT : tkC' B L T := tkC_fr ht (tq 3 (by decide)) (tq 4 (by decide)) (tq 5 (by decide)) (by rw [t2])
    have done : (p.2.1 ≠ 0 ∨ tk B L p.1 = 24) → okk (K1 T) (fun Z => ∃ c i, chk (tk B L) (tvn B L) (smN B L) (nT B L) c i ∧ c ≤ 5 ∧ Z.1 7 8 = nI c ∧ Z.1 7 9 = (if c = 0 then -1 else nI (tp B L i)) ∧ (∀ q, q ≠ 7 → Z.1 q = S.1 q) ∧ (∀ q, q ≠ 8 → Z.2 q = S.2 q)) := by
      intro z
      have e : p = R := by rw [← pR]; exact (tR_f z m c).symm
      rw [e] at pl pw
      refine hK1 T pl pw (fun y => ?_) tq t2
      rcases z with z | z
      · rw [e] at z; exact absurd y z
      · rw [← e] at y
        obtain ⟨k1, k2, _⟩ := pk y
        exact ⟨p.1, c, by rw [← e]; exact k1, k2, z⟩
    by_cases g : p.2.1 = 0
    · obtain ⟨k1, k2, k3, k4⟩ := pk g
      have hp4 := k2.2.1
      refine ok_neg (show ¬ (400 : Int32) ≤ nI j from nI_ge (b := 400) (by omega) (by decide)) (ok_pos (by rw [pl.1, g]; rfl) ?_)
      rw [pl.2.1 g, kindAtC htT (by omega), Option.bind_some]
      have hk62 := kOK_lt (tk_ok (B := B) (L := L) (i := p.1))
      refine ok_if (fun g24 => ?_) (fun g24 => ?_)
      · exact done (Or.inr ((nI_eq (b := 24) (by omega) (by decide)).mp g24))
      · have g24 : tk B L p.1 ≠ 24 := fun z => g24 (by rw [z]; rfl)
        refine ok_bd (tellC (tvn B L) pl pw g htT pc k2.2.2.2.1 k2.2.2.2.2.1 k2.2.2.2.2.2.1) ?_
        rintro U ⟨u1, u2, u3⟩
        rw [nI_1]
        cases m with
        | zero => omega
        | succ m =>
          rw [tR, if_pos ⟨g, g24⟩] at pR
          refine ih (401 - (j + 1)) _ _ (by omega) ⟨j + 1, m, _, _, rfl, rfl, by omega, u1, tellS_wf pw, u2, pR, fcT_trans pf u3, fun z => ?_⟩
          rw [k1] at z ⊢
          obtain ⟨t1, e1, e2, e3, e4⟩ := tellS_ok hV z
          rw [e1]
          exact ⟨rfl, gdT_step hV k2 e2 e3 e4, by show 401 ≤ m + t1; omega, by show 3 * (j + 1) ≤ t1; omega⟩
    · exact ok_if (fun _ => done (Or.inl g)) (fun _ => ok_neg (by rw [pl.1]; exact nI_ne0 (by omega) (by omega)) (done (Or.inl g)))
