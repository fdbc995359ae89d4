/-! a text without a fault: its shape; what it tells -/
theorem flB_len (c1 c2 c3 : lwC) : (flB (some (c1, c2), c3)).length = c1.length + c2.length + c3.length + 2 := by
  rw [flB]
  simp only [List.length_append, List.length_cons, List.length_map, List.length_nil]
  omega
theorem flB_len0 (c3 : lwC) : (flB (none, c3)).length = c3.length + 1 := by
  rw [flB]
  simp only [List.length_append, List.length_cons, List.length_map, List.length_nil]
theorem lawR_ok {K V : Nat → Nat} (hV : ∀ i, V i < 2 ^ 31) : ∀ (n : Nat) (q : pst), q.1 ≤ 400 → (lawR K V n q).1.2.1 = 0 → q.2.1 = 0 ∧ (lawR K V n q).1.2.2 = 0 ∧ q.1 + 2 ≤ (lawR K V n q).1.1 ∧ (lawR K V n q).1.1 ≤ 400 ∧ K ((lawR K V n q).1.1 - 1) = 59 ∧ (∀ i, q.1 ≤ i → i + 1 < (lawR K V n q).1.1 → K i ≠ 59 ∧ K i ≠ 22 ∧ K i ≠ 24) ∧ lwf (lawR K V n q).2 ∧ (flat (lawR K V n q).2).length + q.1 ≤ (lawR K V n q).1.1 := by
  intro n
  induction n with
  | zero => intro q _ h; exact absurd h (sRef_ok (by decide))
  | succ n ih =>
    intro q h4 h
    rw [lawR] at h ⊢
    by_cases g : q.2.1 = 0 ∧ K q.1 = 10
    · rw [if_pos g] at h ⊢
      by_cases g0 : n = 0
      · rw [if_pos g0] at h; exact absurd h (sRef_ok (by decide))
      rw [if_neg g0] at h ⊢
      have h : (lawR K V n (lw3 K V q)).1.2.1 = 0 := h
      have w4 : (lw3 K V q).1 ≤ 400 := (lw3_wf (K := K) (V := V) (p := q) ⟨h4, by rw [g.1]; exact Nat.zero_le _⟩).2.2.1
      obtain ⟨i1, i2, i3, i4, i5, i6, i7, i8⟩ := ih (lw3 K V q) w4 h
      have hw := lw3_wf (K := K) (V := V) (p := q) ⟨h4, by rw [g.1]; exact Nat.zero_le _⟩
      have hwP := sPass_wf (p := q) ⟨h4, by rw [g.1]; exact Nat.zero_le _⟩
      obtain ⟨a1, a2, a3, a4⟩ := sOnly_ok (show (sOnly K 12 (sX K V (lw2 K V q)).1).2.1 = 0 from i1)
      have a4 : lw3 K V q = _ := a4
      obtain ⟨b1, b2, b3, b4, b5, b6, b7⟩ := sX_ok hV hw.2.1.1 a1
      obtain ⟨c1, c2, c3, c4⟩ := sOnly_ok (show (sOnly K 11 (sX K V (lw1 K V q)).1).2.1 = 0 from b1)
      have c4 : lw2 K V q = _ := c4
      obtain ⟨d1, d2, d3, d4, d5, d6, d7⟩ := sX_ok hV hw.1.1 c1
      obtain ⟨e1, e2, e3, e4⟩ := sOnly_ok (show (sOnly K 60 (sX K V (sPass q)).1).2.1 = 0 from d1)
      have e4 : lw1 K V q = _ := e4
      obtain ⟨f1, f2, f3, f4, f5, f6, f7⟩ := sX_ok hV hwP.1 e1
      obtain ⟨_, _, k3⟩ := sPass_ok f1
      have p0 : (sPass q).1 = q.1 + 1 := by rw [k3]
      have p1 : (lw1 K V q).1 = (sX K V (sPass q)).1.1 + 1 := by rw [e4]
      have p2 : (lw2 K V q).1 = (sX K V (lw1 K V q)).1.1 + 1 := by rw [c4]
      have p3 : (lw3 K V q).1 = (sX K V (lw2 K V q)).1.1 + 1 := by rw [a4]
      refine ⟨g.1, i2, ?_, i4, i5, fun i j1 j2 => ?_, ⟨f5, d5, b5, i7⟩, ?_⟩
      · show q.1 + 2 ≤ (lawR K V n (lw3 K V q)).1.1; omega
      · have j2 : i + 1 < (lawR K V n (lw3 K V q)).1.1 := j2
        have m4 : ∀ m, m = 10 ∨ m = 60 ∨ m = 11 ∨ m = 12 → K i = m → K i ≠ 59 ∧ K i ≠ 22 ∧ K i ≠ 24 := by intro m hm e; omega
        rcases (by omega : i = q.1 ∨ (q.1 + 1 ≤ i ∧ i < (sX K V (sPass q)).1.1) ∨ i = (sX K V (sPass q)).1.1 ∨ ((lw1 K V q).1 ≤ i ∧ i < (sX K V (lw1 K V q)).1.1) ∨ i = (sX K V (lw1 K V q)).1.1 ∨ ((lw2 K V q).1 ≤ i ∧ i < (sX K V (lw2 K V q)).1.1) ∨ i = (sX K V (lw2 K V q)).1.1 ∨ (lw3 K V q).1 ≤ i) with z | z | z | z | z | z | z | z
        · exact m4 10 (by omega) (by rw [z]; exact g.2)
        · have := f7 i (by omega) z.2; exact ⟨this.1, this.2.1, this.2.2.1⟩
        · exact m4 60 (by omega) (by rw [z]; exact e2)
        · have := d7 i z.1 z.2; exact ⟨this.1, this.2.1, this.2.2.1⟩
        · exact m4 11 (by omega) (by rw [z]; exact c2)
        · have := b7 i z.1 z.2; exact ⟨this.1, this.2.1, this.2.2.1⟩
        · exact m4 12 (by omega) (by rw [z]; exact a2)
        · exact i6 i z j2
      · show (flat ((some ((sX K V (sPass q)).2, (sX K V (lw1 K V q)).2), (sX K V (lw2 K V q)).2) :: (lawR K V n (lw3 K V q)).2)).length + q.1 ≤ (lawR K V n (lw3 K V q)).1.1
        rw [flat, List.length_append, flB_len]
        omega
    · rw [if_neg g] at h ⊢
      obtain ⟨a1, a2, a3, a4⟩ := sOnly_ok h
      obtain ⟨b1, b2, b3, b4, b5, b6, b7⟩ := sX_ok hV h4 a1
      refine ⟨b1, ?_, ?_, ?_, ?_, fun i j1 j2 => ?_, ⟨b5, trivial⟩, ?_⟩
      · rw [a4]; exact b2
      · rw [a4]; show q.1 + 2 ≤ (sX K V q).1.1 + 1; omega
      · rw [a4]; show (sX K V q).1.1 + 1 ≤ 400; omega
      · rw [a4]; show K ((sX K V q).1.1 + 1 - 1) = 59; rw [Nat.add_sub_cancel]; exact a2
      · rw [a4] at j2
        have j2 : i + 1 < (sX K V q).1.1 + 1 := j2
        have := b7 i j1 (by omega); exact ⟨this.1, this.2.1, this.2.2.1⟩
      · rw [a4]
        show (flat [(none, (sX K V q).2)]).length + q.1 ≤ (sX K V q).1.1 + 1
        rw [flat, List.length_append, flB_len0]
        show (sX K V q).2.length + 1 + 0 + q.1 ≤ _
        omega
theorem its_ok {K : Nat → Nat} : ∀ (m : Nat) (p : pst), (its K m p).2.1 = 0 → p.2.1 = 0 ∧ its K m p = (p.1 + m, p.2) ∧ (∀ j, j < m → K (p.1 + j) = 23)
  | 0, p, h => ⟨h, rfl, fun j hj => by omega⟩
  | m + 1, p, h => by
    rw [its] at h ⊢
    obtain ⟨h1, h2, h3⟩ := its_ok m _ h
    obtain ⟨a1, a2, a3, a4⟩ := sOnly_ok h1
    rw [h2, a4]
    rw [a4] at h3
    refine ⟨a1, ?_, fun j hj => ?_⟩
    · show (p.1 + 1 + m, p.2) = (p.1 + (m + 1), p.2)
      rw [Nat.add_assoc, Nat.add_comm 1 m]
    · by_cases e : j = 0
      · rw [e]; exact a2
      · have := h3 (j - 1) (by omega)
        have : K (p.1 + 1 + (j - 1)) = 23 := this
        rw [show p.1 + 1 + (j - 1) = p.1 + j by omega] at this
        exact this
theorem nmd_ok {K : Nat → Nat} {m : Nat} {p : pst} (h : (nmd K m p).2.1 = 0) : p.2.1 = 0 ∧ p.1 + 3 + m ≤ 400 ∧ nmd K m p = (p.1 + 3 + m, p.2) ∧ K (p.1 + 1) = 22 ∧ (∀ j, j < m → K (p.1 + 2 + j) = 23) ∧ K (p.1 + 2 + m) = 59 := by
  unfold nmd at h ⊢
  obtain ⟨a1, a2, a3, a4⟩ := sOnly_ok h
  obtain ⟨b1, b2, b3⟩ := its_ok m _ a1
  obtain ⟨c1, c2, c3, c4⟩ := sOnly_ok b1
  obtain ⟨d1, d2, d3⟩ := sPass_ok c1
  rw [d3] at c2 c4 b2 b3 a2 a3 a4 ⊢
  rw [c4] at b2 b3 a2 a3 a4 ⊢
  rw [b2] at a2 a3 a4 ⊢
  have a2 : K (p.1 + 1 + 1 + m) = 59 := a2
  have a3 : p.1 + 1 + 1 + m < 400 := a3
  refine ⟨d1, by omega, ?_, c2, fun j hj => b3 j hj, a2⟩
  rw [a4]
  show (p.1 + 1 + 1 + m + 1, p.2) = _
  rw [show p.1 + 1 + 1 + m + 1 = p.1 + 3 + m by omega]
theorem room_ok {a b : Nat} {p : pst} (h : (roomS a b p).2.1 = 0) : a < b ∧ roomS a b p = p := by
  unfold roomS at h ⊢
  by_cases g : a < b
  · rw [if_pos g]; exact ⟨g, rfl⟩
  · rw [if_neg g] at h; exact absurd h (sRef_ok (by decide))
def shN (K : Nat → Nat) (t m : Nat) : Prop := K (t + 1) = 22 ∧ (∀ j, j < m → K (t + 2 + j) = 23) ∧ K (t + 2 + m) = 59
/-- a TELL from t to t' -/
def shT (K V : Nat → Nat) (c : Nat × Nat × Nat) (t t' : Nat) : Prop :=
  (K t = 0 ∧ c.1 < 8 ∧ shN K t 5 ∧ t' = t + 8) ∨ (K t = 1 ∧ c.1 < 8 ∧ shN K t 4 ∧ t' = t + 7) ∨ (K t = 2 ∧ c.2.1 < 4 ∧ shN K t 1 ∧ t' = t + 4) ∨ (K t = 3 ∧ c.2.2 < 6 ∧ shN K t 2 ∧ t' = t + 5) ∨ (4 ≤ K t ∧ K t ≤ 6 ∧ K (t + 1) = 61 ∧ (lawR K V 5 (t + 2, 0, 0)).1 = (t', 0, 0)) ∨ (7 ≤ K t ∧ K t ≤ 9 ∧ K (t + 1) = 23 ∧ K (t + 2) = 59 ∧ t' = t + 3)
theorem tellS_ok {K V : Nat → Nat} {c : Nat × Nat × Nat} {t : Nat} (hV : ∀ i, V i < 2 ^ 31) (h : (tellS K V c (t, 0, 0)).2.1 = 0) : ∃ t', tellS K V c (t, 0, 0) = (t', 0, 0) ∧ t + 3 ≤ t' ∧ t' ≤ 400 ∧ shT K V c t t' := by
  unfold tellS at h ⊢
  have nam : ∀ m a b, (nmd K m (roomS a b (t, 0, 0))).2.1 = 0 → nmd K m (roomS a b (t, 0, 0)) = (t + 3 + m, 0, 0) ∧ t + 3 + m ≤ 400 ∧ a < b ∧ shN K t m := by
    intro m a b z
    obtain ⟨z1, z2, z3, z4, z5, z6⟩ := nmd_ok z
    obtain ⟨y1, y2⟩ := room_ok z1
    rw [y2] at z2 z3 z4 z5 z6 ⊢
    exact ⟨z3, z2, y1, z4, z5, z6⟩
  by_cases g0 : K t = 0
  · rw [if_pos g0] at h ⊢
    obtain ⟨z1, z2, z3, z4⟩ := nam _ _ _ h
    exact ⟨t + 8, z1, by omega, by omega, Or.inl ⟨g0, z3, z4, rfl⟩⟩
  rw [if_neg g0] at h ⊢
  by_cases g1 : K t = 1
  · rw [if_pos g1] at h ⊢
    obtain ⟨z1, z2, z3, z4⟩ := nam _ _ _ h
    exact ⟨t + 7, z1, by omega, by omega, Or.inr (Or.inl ⟨g1, z3, z4, rfl⟩)⟩
  rw [if_neg g1] at h ⊢
  by_cases g2 : K t = 2
  · rw [if_pos g2] at h ⊢
    obtain ⟨z1, z2, z3, z4⟩ := nam _ _ _ h
    exact ⟨t + 4, z1, by omega, by omega, Or.inr (Or.inr (Or.inl ⟨g2, z3, z4, rfl⟩))⟩
  rw [if_neg g2] at h ⊢
  by_cases g3 : K t = 3
  · rw [if_pos g3] at h ⊢
    obtain ⟨z1, z2, z3, z4⟩ := nam _ _ _ h
    exact ⟨t + 5, z1, by omega, by omega, Or.inr (Or.inr (Or.inr (Or.inl ⟨g3, z3, z4, rfl⟩)))⟩
  rw [if_neg g3] at h ⊢
  by_cases g6 : K t ≤ 6
  · rw [if_pos g6] at h ⊢
    by_cases ho : (sOnly K 61 (sPass (t, 0, 0))).2.1 = 0
    · obtain ⟨a1, a2, a3, a4⟩ := sOnly_ok ho
      obtain ⟨b1, b2, b3⟩ := sPass_ok a1
      rw [b3] at a2 a3 a4
      have a2 : K (t + 1) = 61 := a2
      have a3 : t + 1 < 400 := a3
      have e : sOnly K 61 (sPass (t, 0, 0)) = (t + 2, 0, 0) := by rw [b3, a4]
      rw [e] at h ⊢
      obtain ⟨i1, i2, i3, i4, i5, i6, i7, i8⟩ := lawR_ok (K := K) hV 5 (t + 2, 0, 0) (by show t + 2 ≤ 400; omega) h
      have i3 : t + 2 + 2 ≤ (lawR K V 5 (t + 2, 0, 0)).1.1 := i3
      have e2 : (lawR K V 5 (t + 2, 0, 0)).1 = ((lawR K V 5 (t + 2, 0, 0)).1.1, 0, 0) := by
        refine Prod.ext rfl (Prod.ext h i2)
      exact ⟨(lawR K V 5 (t + 2, 0, 0)).1.1, e2, by omega, i4, Or.inr (Or.inr (Or.inr (Or.inr (Or.inl ⟨by omega, g6, a2, e2⟩))))⟩
    · rw [lawR_f ho] at h
      exact absurd h ho
  rw [if_neg g6] at h ⊢
  by_cases g9 : K t ≤ 9
  · rw [if_pos g9] at h ⊢
    obtain ⟨a1, a2, a3, a4⟩ := sOnly_ok h
    obtain ⟨b1, b2, b3, b4⟩ := sOnly_ok a1
    obtain ⟨c1, c2, c3⟩ := sPass_ok b1
    rw [c3] at b2 b4 a2 a3 a4 ⊢
    rw [b4] at a2 a3 a4 ⊢
    have a2 : K (t + 2) = 59 := a2
    have a3 : t + 2 < 400 := a3
    have b2 : K (t + 1) = 23 := b2
    refine ⟨t + 3, by rw [a4], by omega, by omega, Or.inr (Or.inr (Or.inr (Or.inr (Or.inr ⟨by omega, g9, b2, a2, rfl⟩))))⟩
  · rw [if_neg g9] at h
    exact absurd h (sRef_ok (by decide))
/-- the tokens of a TELL -/
theorem shT_tok {K V : Nat → Nat} {c : Nat × Nat × Nat} {t t' : Nat} (hV : ∀ i, V i < 2 ^ 31) (ht : t + 3 ≤ t') (ht' : t' ≤ 400) (h : shT K V c t t') : K (t' - 1) = 59 ∧ (∀ i, t ≤ i → i + 1 < t' → K i ≠ 59 ∧ K i ≠ 24) ∧ (∀ i, t ≤ i → i < t' → K i = 22 → i = t + 1 ∧ K t ≤ 3) ∧ (K t ≤ 3 → K (t + 1) = 22) ∧ K t ≤ 9 := by
  have nam : ∀ m, K t ≤ 3 → shN K t m → t' = t + 3 + m → K (t' - 1) = 59 ∧ (∀ i, t ≤ i → i + 1 < t' → K i ≠ 59 ∧ K i ≠ 24) ∧ (∀ i, t ≤ i → i < t' → K i = 22 → i = t + 1 ∧ K t ≤ 3) ∧ (K t ≤ 3 → K (t + 1) = 22) ∧ K t ≤ 9 := by
    intro m hk hs e
    subst e
    have tok : ∀ i, t ≤ i → i + 1 < t + 3 + m → i = t ∨ i = t + 1 ∨ K i = 23 := by
      intro i i1 i2
      by_cases e1 : i = t
      · exact Or.inl e1
      by_cases e2 : i = t + 1
      · exact Or.inr (Or.inl e2)
      · have := hs.2.1 (i - (t + 2)) (by omega)
        rw [show t + 2 + (i - (t + 2)) = i by omega] at this
        exact Or.inr (Or.inr this)
    refine ⟨by rw [show t + 3 + m - 1 = t + 2 + m by omega]; exact hs.2.2, fun i i1 i2 => ?_, fun i i1 i2 i3 => ?_, fun _ => hs.1, by omega⟩
    · rcases tok i i1 i2 with z | z | z
      · rw [z]; omega
      · rw [z, hs.1]; omega
      · rw [z]; omega
    · by_cases e : i + 1 < t + 3 + m
      · rcases tok i i1 e with z | z | z
        · rw [z] at i3; omega
        · exact ⟨z, hk⟩
        · omega
      · have : i = t + 2 + m := by omega
        rw [this, hs.2.2] at i3; omega
  rcases h with ⟨g, _, g2, g3⟩ | ⟨g, _, g2, g3⟩ | ⟨g, _, g2, g3⟩ | ⟨g, _, g2, g3⟩ | ⟨g, g1, g2, g3⟩ | ⟨g, g1, g2, g3, g4⟩
  · exact nam 5 (by omega) g2 (by omega)
  · exact nam 4 (by omega) g2 (by omega)
  · exact nam 1 (by omega) g2 (by omega)
  · exact nam 2 (by omega) g2 (by omega)
  · have h0 : (lawR K V 5 (t + 2, 0, 0)).1.2.1 = 0 := by rw [g3]
    obtain ⟨i1, i2, i3, i4, i5, i6, i7, i8⟩ := lawR_ok (K := K) hV 5 (t + 2, 0, 0) (by show t + 2 ≤ 400; omega) h0
    rw [g3] at i3 i5 i6
    refine ⟨i5, fun i j1 j2 => ?_, fun i j1 j2 j3 => ?_, fun z => by omega, by omega⟩
    · by_cases e1 : i = t
      · rw [e1]; omega
      by_cases e2 : i = t + 1
      · rw [e2, g2]; omega
      · have := i6 i (show t + 2 ≤ i by omega) j2; exact ⟨this.1, this.2.2⟩
    · exfalso
      by_cases e1 : i = t
      · rw [e1] at j3; omega
      by_cases e2 : i = t + 1
      · rw [e2] at j3; omega
      by_cases e3 : i + 1 < t'
      · exact (i6 i (show t + 2 ≤ i by omega) e3).2.1 j3
      · have i5 : K (t' - 1) = 59 := i5
        rw [show i = t' - 1 by omega] at j3; omega
  · subst g4
    refine ⟨g3, fun i j1 j2 => ?_, fun i j1 j2 j3 => ?_, fun z => by omega, by omega⟩
    · rcases (by omega : i = t ∨ i = t + 1) with z | z
      · rw [z]; omega
      · rw [z, g2]; omega
    · exfalso
      rcases (by omega : i = t ∨ i = t + 1 ∨ i = t + 2) with z | z | z
      · rw [z] at j3; omega
      · rw [z] at j3; omega
      · rw [z] at j3; omega
