/-! The typed heap of the system: ints by (cell, slot), longs by (cell, slot); the references stand in a layout that doesn't change. -/
abbrev qv_St : Type := (Nat → Nat → Int32) × (Nat → Nat → Int64)
abbrev qv_Lc : Type := (Nat × List (Option Nat)) ⊕ (Nat × Nat × List Nat)
abbrev qv_GT : Type := Launch × va_G × (Nat → Nat) × (Nat → ClassId)
abbrev qv_XT : Type := Program × Env × State × MethodId × Array Value × List Frame × Method × Code
def qv_tys (cy : Nat → ClassId) : List (ClassId × FieldType) := [(cy 0, .int), (cy 1, .byte), (cy 2, .boolean), (cy 3, .long), (cy 4, .object "QuietTake$State")]
def qv_fv (ad : Nat → Nat) (S : qv_St) (q j : Nat) (f : Option Nat) : Value := match f with
  | none => .int (S.1 q j)
  | some r => .ref (ad r)
def qv_cell (ad : Nat → Nat) (cy : Nat → ClassId) (S : qv_St) (q : Nat) (c : qv_Lc) : va_E := match c with
  | .inl o => .inr (o.1, o.2.mapIdx (qv_fv ad S q))
  | .inr a => if a.1 = 4 then .inl (cy 4, a.2.1, .inr (.inr (.inr (.inr (fun i => (a.2.2[i]?).map ad))))) else if a.1 = 3 then .inl (cy 3, a.2.1, .inr (.inl (S.2 q))) else .inl (cy a.1, a.2.1, .inl (S.1 q))
def qv_wd (ad : Nat → Nat) (cy : Nat → ClassId) (L : List qv_Lc) (S : qv_St) : va_W := L.mapIdx (fun q c => (ad q, qv_cell ad cy S q c))
def qv_u2 (M : Nat → Nat → Int32) (q k : Nat) (x : Int32) : Nat → Nat → Int32 := fun i => if i = q then upd (M q) k x else M i
def qv_l2 (M : Nat → Nat → Int64) (q k : Nat) (x : Int64) : Nat → Nat → Int64 := fun i => if i = q then vp_updL (M q) k x else M i
def qv_si (S : qv_St) (q k : Nat) (x : Int32) : qv_St := (qv_u2 S.1 q k x, S.2)
def qv_sl (S : qv_St) (q k : Nat) (x : Int64) : qv_St := (S.1, qv_l2 S.2 q k x)
def qv_inj (ad : Nat → Nat) (L : List qv_Lc) : Prop := ∀ i j : Nat, i < L.length → j < L.length → ad i = ad j → i = j
def qv_A (ad : Nat → Nat) (L : List qv_Lc) : Nat → Prop := fun a => ∃ q : Nat, q < L.length ∧ a = ad q
theorem qv_at {ad : Nat → Nat} {cy : Nat → ClassId} {L : List qv_Lc} {S : qv_St} {q : Nat} {c : qv_Lc} (h : L[q]? = some c) : (qv_wd ad cy L S)[q]? = some (ad q, qv_cell ad cy S q c) := by
  simp [qv_wd, h]
theorem qv_at_inv {ad : Nat → Nat} {cy : Nat → ClassId} {L : List qv_Lc} {S : qv_St} {q : Nat} {z : Nat × va_E} (h : (qv_wd ad cy L S)[q]? = some z) : q < L.length ∧ z.1 = ad q := by
  rw [qv_wd, List.getElem?_mapIdx] at h
  cases hq : L[q]? with
  | none => rw [hq] at h; cases h
  | some c =>
    rw [hq] at h
    cases h
    exact ⟨(List.getElem?_eq_some_iff.mp hq).1, rfl⟩
theorem qv_D {ad : Nat → Nat} {cy : Nat → ClassId} {L : List qv_Lc} {S : qv_St} (h : qv_inj ad L) : va_D (qv_A ad L) (qv_wd ad cy L S) := by
  refine ⟨fun i j p q hi hj e => ?_, fun k q hk => ?_⟩
  · obtain ⟨h1, h2⟩ := qv_at_inv hi
    obtain ⟨h3, h4⟩ := qv_at_inv hj
    exact h i j h1 h3 (by rw [← h2, ← h4]; exact e)
  · obtain ⟨h1, h2⟩ := qv_at_inv hk
    exact ⟨k, h1, h2⟩
theorem qv_cell_ne {ad : Nat → Nat} {cy : Nat → ClassId} {S S' : qv_St} {q : Nat} {c : qv_Lc} (h1 : S'.1 q = S.1 q) (h2 : S'.2 q = S.2 q) : qv_cell ad cy S' q c = qv_cell ad cy S q c := by
  have hf : qv_fv ad S' q = qv_fv ad S q := by
    funext j f
    cases f with
    | none => simp [qv_fv, h1]
    | some r => rfl
  cases c with
  | inl o => simp [qv_cell, hf]
  | inr a => simp [qv_cell, h1, h2]
theorem qv_wd_set {ad : Nat → Nat} {cy : Nat → ClassId} {L : List qv_Lc} {S S' : qv_St} {q : Nat} {c : qv_Lc} {e : va_E} (h : L[q]? = some c) (he : qv_cell ad cy S' q c = e) (hn : ∀ i, i ≠ q → S'.1 i = S.1 i ∧ S'.2 i = S.2 i) : (qv_wd ad cy L S).set q (ad q, e) = qv_wd ad cy L S' := by
  apply List.ext_getElem?
  intro i
  by_cases hi : i = q
  · subst hi
    rw [List.getElem?_set_self (by simp [qv_wd]; exact (List.getElem?_eq_some_iff.mp h).1), qv_at h, he]
  · rw [List.getElem?_set_ne (Ne.symm hi)]
    simp only [qv_wd, List.getElem?_mapIdx]
    cases L[i]? with
    | none => rfl
    | some c2 => simp [qv_cell_ne (hn i hi).1 (hn i hi).2]
theorem qv_si_ne {S : qv_St} {q k : Nat} {x : Int32} : ∀ i, i ≠ q → (qv_si S q k x).1 i = S.1 i ∧ (qv_si S q k x).2 i = S.2 i := fun i h => ⟨by simp [qv_si, qv_u2, h], rfl⟩
theorem qv_sl_ne {S : qv_St} {q k : Nat} {x : Int64} : ∀ i, i ≠ q → (qv_sl S q k x).1 i = S.1 i ∧ (qv_sl S q k x).2 i = S.2 i := fun i h => ⟨rfl, by simp [qv_sl, qv_l2, h]⟩
theorem qv_fset {ad : Nat → Nat} {S : qv_St} {q k : Nat} {x : Int32} {fs : List (Option Nat)} (hk : fs[k]? = some none) : fs.mapIdx (qv_fv ad (qv_si S q k x) q) = (fs.mapIdx (qv_fv ad S q)).set k (.int x) := by
  apply List.ext_getElem?
  intro i
  rw [List.getElem?_mapIdx]
  by_cases hi : i = k
  · subst hi
    rw [List.getElem?_set_self (by simp; exact (List.getElem?_eq_some_iff.mp hk).1), hk]
    simp [qv_fv, qv_si, qv_u2, upd]
  · rw [List.getElem?_set_ne (Ne.symm hi), List.getElem?_mapIdx]
    cases fs[i]? with
    | none => rfl
    | some f =>
      cases f with
      | none => simp [qv_fv, qv_si, qv_u2, upd, hi]
      | some r => rfl
theorem qv_set_f {ad : Nat → Nat} {cy : Nat → ClassId} {L : List qv_Lc} {S : qv_St} {q k ci : Nat} {x : Int32} {fs : List (Option Nat)} (h : L[q]? = some (.inl (ci, fs))) (hk : fs[k]? = some none) : (qv_wd ad cy L S).set q (ad q, .inr (ci, (fs.mapIdx (qv_fv ad S q)).set k (.int x))) = qv_wd ad cy L (qv_si S q k x) :=
  qv_wd_set h (by simp only [qv_cell]; rw [qv_fset hk]) qv_si_ne
theorem qv_set_a {ad : Nat → Nat} {cy : Nat → ClassId} {L : List qv_Lc} {S : qv_St} {q k t n : Nat} {x : Int32} {rs : List Nat} (h : L[q]? = some (.inr (t, n, rs))) (ht : t < 3) : (qv_wd ad cy L S).set q (ad q, .inl (cy t, n, .inl (upd (S.1 q) k x))) = qv_wd ad cy L (qv_si S q k x) :=
  qv_wd_set h (by simp only [qv_cell, show ¬ t = 4 by omega, show ¬ t = 3 by omega, if_false]; simp [qv_si, qv_u2]) qv_si_ne
theorem qv_set_l {ad : Nat → Nat} {cy : Nat → ClassId} {L : List qv_Lc} {S : qv_St} {q k n : Nat} {x : Int64} {rs : List Nat} (h : L[q]? = some (.inr (3, n, rs))) : (qv_wd ad cy L S).set q (ad q, .inl (cy 3, n, .inr (.inl (vp_updL (S.2 q) k x)))) = qv_wd ad cy L (qv_sl S q k x) :=
  qv_wd_set h (by simp [qv_cell, qv_sl, qv_l2]) qv_sl_ne
theorem qv_at_a {ad : Nat → Nat} {cy : Nat → ClassId} {L : List qv_Lc} {S : qv_St} {q t n : Nat} {rs : List Nat} (h : L[q]? = some (.inr (t, n, rs))) (ht : t < 3) : (qv_wd ad cy L S)[q]? = some (ad q, .inl (cy t, n, .inl (S.1 q))) := by
  rw [qv_at h]
  simp [qv_cell, show ¬ t = 4 by omega, show ¬ t = 3 by omega]
theorem qv_at_l {ad : Nat → Nat} {cy : Nat → ClassId} {L : List qv_Lc} {S : qv_St} {q n : Nat} {rs : List Nat} (h : L[q]? = some (.inr (3, n, rs))) : (qv_wd ad cy L S)[q]? = some (ad q, .inl (cy 3, n, .inr (.inl (S.2 q)))) := by
  rw [qv_at h]
  simp [qv_cell]
theorem qv_at_r {ad : Nat → Nat} {cy : Nat → ClassId} {L : List qv_Lc} {S : qv_St} {q n : Nat} {rs : List Nat} (h : L[q]? = some (.inr (4, n, rs))) : (qv_wd ad cy L S)[q]? = some (ad q, .inl (cy 4, n, .inr (.inr (.inr (.inr (fun i => (rs[i]?).map ad)))))) := by
  rw [qv_at h]
  simp [qv_cell]
theorem qv_at_o {ad : Nat → Nat} {cy : Nat → ClassId} {L : List qv_Lc} {S : qv_St} {q ci : Nat} {fs : List (Option Nat)} (h : L[q]? = some (.inl (ci, fs))) : (qv_wd ad cy L S)[q]? = some (ad q, .inr (ci, fs.mapIdx (qv_fv ad S q))) := qv_at h
/-! The words of pure programs: a name for a value, a join of ways, a check, a loop. -/
def qv_b {α β : Type} (e : α) (k : α → β) : β := k e
def qv_j {α β : Type} (K : α) (b : α → β) : β := b K
def qv_in (i : Int32) (n : Nat) : Bool := decide (¬ (i < 0 ∨ n ≤ i.toNatClampNeg))
theorem qv_in_iff {i : Int32} {n : Nat} : qv_in i n = true ↔ vp_in i n := by simp [qv_in, vp_in]
def qv_ck {ρ : Type} (i : Int32) (n : Nat) (o : Option ρ) : Option ρ := if qv_in i n = true then o else none
def qv_nz {ρ : Type} (y : Int32) (o : Option ρ) : Option ρ := if y = 0 then none else o
def qv_rz {ρ : Type} (y : Int32) (o : Option ρ) : Option ρ := if y = 0 ∨ y = 1 then o else none
def qv_cm {ρ : Type} (o : Option (qv_St × Int32)) (k : qv_St → Int32 → Option ρ) : Option ρ := o.bind (fun z => k z.1 z.2)
