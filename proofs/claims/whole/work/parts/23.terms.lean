/-! terms of a law: operations on a pile -/
def sop (vars : Nat → Int32) (k v : Int32) (st : List Int32) : Option (List Int32) :=
  if k = 0 then some (v :: st) else if k = 1 then some (vars v.toNatClampNeg :: st) else match st with
  | b :: a :: r => if k = 2 then some ((a + b) :: r) else if k = 3 then some ((a - b) :: r) else if k = 4 then some ((a * b) :: r) else if b = 0 then none else some ((a / b) :: r)
  | _ => none
def srun (vars : Nat → Int32) : List (Int32 × Int32) → List Int32 → Option (List Int32)
  | [], st => some st
  | o :: t, st => (sop vars o.1 o.2 st).bind (srun vars t)
def swf : List (Int32 × Int32) → Nat → Prop
  | [], d => d = 1
  | o :: t, d => (o.1 = 0 ∧ swf t (d + 1)) ∨ (o.1 = 1 ∧ vp_in o.2 9 ∧ swf t (d + 1)) ∨ ((o.1 = 2 ∨ o.1 = 3 ∨ o.1 = 4 ∨ o.1 = 5) ∧ 2 ≤ d ∧ swf t (d - 1))
/-- the pile's lower cells hold the stack, its top last -/
def prep (P : Nat → Int32) : List Int32 → Prop
  | [] => True
  | x :: r => P r.length = x ∧ prep P r
theorem prep_upd {P : Nat → Int32} {x : Int32} : ∀ (r : List Int32) (n : Nat), r.length ≤ n → prep P r → prep (upd P n x) r
  | [], _, _, _ => trivial
  | y :: r, n, h, hp => by
    have h1 : r.length < n := h
    exact ⟨by rw [upd_ne (by omega)]; exact hp.1, prep_upd r n (by omega) hp.2⟩
theorem prep_push {P : Nat → Int32} {x : Int32} {r : List Int32} (hp : prep P r) : prep (upd P r.length x) (x :: r) := ⟨upd_eq, prep_upd r _ (Nat.le_refl _) hp⟩
