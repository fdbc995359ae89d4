/-! the second walk: names told twice, numbers not as told -/
def hdT (K : Nat → Nat) : Nat → Nat
  | 0 => 0
  | i + 1 => if K i = 59 then i + 1 else hdT K i
def nN (K : Nat → Nat) : Nat → Nat
  | 0 => 0
  | i + 1 => nN K i + (if K i = 22 then 1 else 0)
theorem hdT_le {K : Nat → Nat} : ∀ i, hdT K i ≤ i
  | 0 => Nat.le_refl _
  | i + 1 => by
    rw [hdT]
    have := hdT_le (K := K) i
    split <;> omega
theorem nN_mono {K : Nat → Nat} {i : Nat} : ∀ d, nN K i ≤ nN K (i + d)
  | 0 => Nat.le_refl _
  | d + 1 => Nat.le_trans (nN_mono d) (Nat.le_add_right _ _)
def fitP (k col n : Nat) : Prop :=
  (k = 0 → (col = 2 → n ≤ 999) ∧ (col = 3 → 1 ≤ n ∧ n ≤ 999) ∧ (col ≠ 2 → col ≠ 3 → n ≤ 99 ∧ (col = 4 → 1 ≤ n))) ∧ (k = 1 → (col = 2 → n ≤ 100) ∧ (col = 3 → 1 ≤ n ∧ n ≤ 20) ∧ (col ≠ 2 → col ≠ 3 → n ≤ 99)) ∧ (k = 2 → n ≤ 9) ∧ (k = 3 → (col = 2 → 1 ≤ n ∧ n ≤ 9) ∧ (col ≠ 2 → n ≤ 99)) ∧ (k = 7 → n ≤ 99)
def isBad (K V : Nat → Nat) (E : Nat → Nat → Prop) (i c : Nat) : Prop := (c = 3 ∧ K i = 22 ∧ ∃ j, j < i ∧ K j = 22 ∧ E j i) ∨ (c = 5 ∧ K i = 23 ∧ ¬ fitP (K (hdT K i)) (i - hdT K i) (V i))
def wS (K V : Nat → Nat) (E : Nat → Nat → Prop) (t c i : Nat) : Prop := (c = 0 ∧ ∀ j, j < t → ∀ d, ¬ isBad K V E j d) ∨ (isBad K V E i c ∧ i < t ∧ ∀ j, j < i → ∀ d, ¬ isBad K V E j d)
theorem bad_c {K V : Nat → Nat} {E : Nat → Nat → Prop} {i c : Nat} (h : isBad K V E i c) : c = 3 ∨ c = 5 := by
  rcases h with h | h
  · exact Or.inl h.1
  · exact Or.inr h.1
theorem wS_u {K V : Nat → Nat} {E : Nat → Nat → Prop} {t c i c' i' : Nat} (h : wS K V E t c i) (h' : wS K V E t c' i') : c = c' ∧ (c ≠ 0 → i = i') := by
  rcases h with ⟨h1, h2⟩ | ⟨h1, h2, h3⟩
  · rcases h' with ⟨g1, g2⟩ | ⟨g1, g2, g3⟩
    · exact ⟨h1.trans g1.symm, fun z => absurd h1 z⟩
    · exact absurd g1 (h2 i' g2 c')
  · rcases h' with ⟨g1, g2⟩ | ⟨g1, g2, g3⟩
    · exact absurd h1 (g2 i h2 c)
    · have e : i = i' := by
        rcases Nat.lt_trichotomy i i' with z | z | z
        · exact absurd h1 (g3 i z c)
        · exact z
        · exact absurd g1 (h3 i' z c')
      subst e
      refine ⟨?_, fun _ => rfl⟩
      rcases h1 with h1 | h1
      · rcases g1 with g1 | g1
        · rw [h1.1, g1.1]
        · exfalso; have := h1.2.1; have := g1.2.1; omega
      · rcases g1 with g1 | g1
        · exfalso; have := h1.2.1; have := g1.2.1; omega
        · rw [h1.1, g1.1]
theorem wS_skip {K V : Nat → Nat} {E : Nat → Nat → Prop} {t c i : Nat} (h : wS K V E t c i) (hn : ∀ d, ¬ isBad K V E t d) : wS K V E (t + 1) c i := by
  rcases h with ⟨h1, h2⟩ | ⟨h1, h2, h3⟩
  · refine Or.inl ⟨h1, fun j hj d => ?_⟩
    by_cases e : j = t
    · rw [e]; exact hn d
    · exact h2 j (by omega) d
  · exact Or.inr ⟨h1, by omega, h3⟩
theorem wS_keep {K V : Nat → Nat} {E : Nat → Nat → Prop} {t c i : Nat} (h : wS K V E t c i) (hc : c ≠ 0) {t' : Nat} (ht : t ≤ t') : wS K V E t' c i := by
  rcases h with ⟨h1, h2⟩ | ⟨h1, h2, h3⟩
  · exact absurd h1 hc
  · exact Or.inr ⟨h1, by omega, h3⟩
theorem wS_bad {K V : Nat → Nat} {E : Nat → Nat → Prop} {t i d : Nat} (h : wS K V E t 0 i) (hb : isBad K V E t d) : wS K V E (t + 1) d t := by
  rcases h with ⟨h1, h2⟩ | ⟨h1, h2, h3⟩
  · exact Or.inr ⟨hb, by omega, h2⟩
  · exfalso; have := bad_c h1; omega
theorem not_bad {K V : Nat → Nat} {E : Nat → Nat → Prop} {i : Nat} (h1 : K i ≠ 22) (h2 : K i ≠ 23) : ∀ d, ¬ isBad K V E i d := fun d h => by
  rcases h with h | h
  · exact h1 h.2.1
  · exact h2 h.2.1
/-! numbers that fit, on the class's side -/
theorem withinN {n a b : Nat} (hn : n < 2 ^ 31) (ha : a < 2 ^ 31) (hb : b < 2 ^ 31) : okk (fX11_within (nI n) (nI a) (nI b)) (fun r => (r = 1 ∧ a ≤ n ∧ n ≤ b) ∨ (r = 0 ∧ ¬ (a ≤ n ∧ n ≤ b))) := by
  unfold fX11_within
  simp only [qj_e]
  refine ok_if (fun g => ?_) (fun g => ?_)
  · have g := (nI_ltI hn ha).mp g
    exact ok_s (Or.inr ⟨rfl, by omega⟩)
  · have g : ¬ n < a := fun z => g ((nI_ltI hn ha).mpr z)
    refine ok_if (fun g2 => ?_) (fun g2 => ?_)
    · have g2 := (nI_ltI hb hn).mp g2
      exact ok_s (Or.inr ⟨rfl, by omega⟩)
    · have g2 : ¬ b < n := fun z => g2 ((nI_ltI hb hn).mpr z)
      exact ok_s (Or.inl ⟨rfl, by omega, by omega⟩)
theorem ok_rz {y : Int32} {Q : Int32 → Prop} (h : y = 0 ∨ y = 1) (hq : Q y) : okk (qv_rz y (some y)) Q := by
  unfold qv_rz
  exact ok_pos h (ok_s hq)
theorem sw7 {ρ : Type} (j : Nat) (hj : j ≤ 7) (os : List (Option ρ)) (d : Option ρ) : qv_sw (nI j) 0 7 os d = (os[j]?).getD none := by
  unfold qv_sw
  rw [nI_toInt (by omega), if_neg (by omega)]
  congr 2
theorem sw7d {ρ : Type} (j : Nat) (hj : 7 < j) (h : j < 2 ^ 31) (os : List (Option ρ)) (d : Option ρ) : qv_sw (nI j) 0 7 os d = d := by
  unfold qv_sw
  rw [nI_toInt h, if_pos (by omega)]
theorem fitsC {k col n : Nat} (hk : k < 2 ^ 31) (hc : col < 2 ^ 31) (hn : n < 2 ^ 31) : okk (fX4_fits (nI k) (nI col) (nI n)) (fun r => (r = 1 ∧ fitP k col n) ∨ (r = 0 ∧ ¬ fitP k col n)) := by
  unfold fX4_fits
  have le : ∀ m : Nat, m < 2 ^ 31 → (m < n → ¬ fitP k col n) → (¬ m < n → fitP k col n) → okk (if nI m < nI n then some (0 : Int32) else some 1) (fun r => (r = 1 ∧ fitP k col n) ∨ (r = 0 ∧ ¬ fitP k col n)) := by
    intro m hm h1 h2
    refine ok_if (fun g => ok_s (Or.inr ⟨rfl, h1 ((nI_ltI hm hn).mp g)⟩)) (fun g => ok_s (Or.inl ⟨rfl, h2 (fun z => g ((nI_ltI hm hn).mpr z))⟩))
  have wi : ∀ a b : Nat, a < 2 ^ 31 → b < 2 ^ 31 → (a ≤ n → n ≤ b → fitP k col n) → (¬ (a ≤ n ∧ n ≤ b) → ¬ fitP k col n) → okk ((fX11_within (nI n) (nI a) (nI b)).bind fun r_2 => qv_rz r_2 (some r_2)) (fun r => (r = 1 ∧ fitP k col n) ∨ (r = 0 ∧ ¬ fitP k col n)) := by
    intro a b ha hb h1 h2
    refine ok_bd (withinN hn ha hb) ?_
    rintro r (⟨r1, r2, r3⟩ | ⟨r1, r2⟩)
    · exact ok_rz (Or.inr r1) (Or.inl ⟨r1, h1 r2 r3⟩)
    · exact ok_rz (Or.inl r1) (Or.inr ⟨r1, h2 r2⟩)
  have all : (k ≠ 0 ∧ k ≠ 1 ∧ k ≠ 2 ∧ k ≠ 3 ∧ k ≠ 7) → okk (some (1 : Int32)) (fun r => (r = 1 ∧ fitP k col n) ∨ (r = 0 ∧ ¬ fitP k col n)) := by
    intro h
    exact ok_s (Or.inl ⟨rfl, fun z => absurd z h.1, fun z => absurd z h.2.1, fun z => absurd z h.2.2.1, fun z => absurd z h.2.2.2.1, fun z => absurd z h.2.2.2.2⟩)
  by_cases g7 : k ≤ 7
  · rw [sw7 k g7]
    rcases (by omega : k = 0 ∨ k = 1 ∨ k = 2 ∨ k = 3 ∨ k = 4 ∨ k = 5 ∨ k = 6 ∨ k = 7) with e | e | e | e | e | e | e | e
    all_goals subst e; simp only [List.getElem?_cons_zero, List.getElem?_cons_succ, Option.getD_some, qj_e]
    · refine ok_if (fun g => ?_) (fun g => ?_)
      · have g := (nI_eq (b := 2) hc (by decide)).mp g
        exact le 999 (by decide) (fun z y => by have := (y.1 rfl).1 g; omega) (fun z => ⟨fun _ => ⟨fun _ => by omega, fun z => by omega, fun z => by omega⟩, fun z => by omega, fun z => by omega, fun z => by omega, fun z => by omega⟩)
      · have g : col ≠ 2 := fun z => g (by rw [z]; rfl)
        refine ok_if (fun g3 => ?_) (fun g3 => ?_)
        · have g3 := (nI_eq (b := 3) hc (by decide)).mp g3
          exact wi 1 999 (by decide) (by decide) (fun z z2 => ⟨fun _ => ⟨fun _ => by omega, fun _ => ⟨z, z2⟩, fun _ z => absurd g3 z⟩, fun z => by omega, fun z => by omega, fun z => by omega, fun z => by omega⟩) (fun z y => z ((y.1 rfl).2.1 g3))
        · have g3 : col ≠ 3 := fun z => g3 (by rw [z]; rfl)
          refine ok_if (fun g4 => ?_) (fun g4 => ?_)
          · have g4 := (nI_eq (b := 4) hc (by decide)).mp g4
            exact wi 1 99 (by decide) (by decide) (fun z z2 => ⟨fun _ => ⟨fun _ => by omega, fun _ => by omega, fun _ _ => ⟨z2, fun _ => z⟩⟩, fun z => by omega, fun z => by omega, fun z => by omega, fun z => by omega⟩) (fun z y => z (by have := (y.1 rfl).2.2 g g3; exact ⟨this.2 g4, this.1⟩))
          · have g4 : col ≠ 4 := fun z => g4 (by rw [z]; rfl)
            exact wi 0 99 (by decide) (by decide) (fun z z2 => ⟨fun _ => ⟨fun _ => by omega, fun _ => by omega, fun _ _ => ⟨z2, fun z => absurd z g4⟩⟩, fun z => by omega, fun z => by omega, fun z => by omega, fun z => by omega⟩) (fun z y => z (by have := (y.1 rfl).2.2 g g3; exact ⟨Nat.zero_le _, this.1⟩))
    · refine ok_if (fun g => ?_) (fun g => ?_)
      · have g := (nI_eq (b := 2) hc (by decide)).mp g
        exact le 100 (by decide) (fun z y => by have := (y.2.1 rfl).1 g; omega) (fun z => ⟨fun z => by omega, fun _ => ⟨fun _ => by omega, fun z => by omega, fun z => by omega⟩, fun z => by omega, fun z => by omega, fun z => by omega⟩)
      · have g : col ≠ 2 := fun z => g (by rw [z]; rfl)
        refine ok_if (fun g3 => ?_) (fun g3 => ?_)
        · have g3 := (nI_eq (b := 3) hc (by decide)).mp g3
          exact wi 1 20 (by decide) (by decide) (fun z z2 => ⟨fun z => by omega, fun _ => ⟨fun _ => by omega, fun _ => ⟨z, z2⟩, fun _ z => absurd g3 z⟩, fun z => by omega, fun z => by omega, fun z => by omega⟩) (fun z y => z ((y.2.1 rfl).2.1 g3))
        · have g3 : col ≠ 3 := fun z => g3 (by rw [z]; rfl)
          exact le 99 (by decide) (fun z y => by have := (y.2.1 rfl).2.2 g g3; omega) (fun z => ⟨fun z => by omega, fun _ => ⟨fun _ => by omega, fun _ => by omega, fun _ _ => by omega⟩, fun z => by omega, fun z => by omega, fun z => by omega⟩)
    · exact le 9 (by decide) (fun z y => by have := y.2.2.1 rfl; omega) (fun z => ⟨fun z => by omega, fun z => by omega, fun _ => by omega, fun z => by omega, fun z => by omega⟩)
    · refine ok_if (fun g => ?_) (fun g => ?_)
      · have g := (nI_eq (b := 2) hc (by decide)).mp g
        exact wi 1 9 (by decide) (by decide) (fun z z2 => ⟨fun z => by omega, fun z => by omega, fun z => by omega, fun _ => ⟨fun _ => ⟨z, z2⟩, fun z => absurd g z⟩, fun z => by omega⟩) (fun z y => z ((y.2.2.2.1 rfl).1 g))
      · have g : col ≠ 2 := fun z => g (by rw [z]; rfl)
        exact le 99 (by decide) (fun z y => by have := (y.2.2.2.1 rfl).2 g; omega) (fun z => ⟨fun z => by omega, fun z => by omega, fun z => by omega, fun _ => ⟨fun _ => by omega, fun _ => by omega⟩, fun z => by omega⟩)
    · exact all (by omega)
    · exact all (by omega)
    · exact all (by omega)
    · exact le 99 (by decide) (fun z y => by have := y.2.2.2.2 rfl; omega) (fun z => ⟨fun z => by omega, fun z => by omega, fun z => by omega, fun z => by omega, fun _ => by omega⟩)
  · rw [sw7d k (by omega) hk]
    exact all (by omega)
