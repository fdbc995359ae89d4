/-! the spec of an E: one machine over tokens; stacks of operators -/
def isop (k : Nat) : Bool := k == 43 || k == 45 || k == 42 || k == 47
def rkO (k : Nat) : Nat := if k = 43 ∨ k = 45 then 1 else if k = 42 ∨ k = 47 then 2 else 0
def opc (k : Nat) : Int32 := if k = 43 then 2 else if k = 45 then 3 else if k = 42 then 4 else 5
def popS (r : Nat) : List Nat → List Nat
  | [] => []
  | x :: t => if rkO x < r then x :: t else popS r t
def popK (r : Nat) : List Nat → lwC
  | [] => []
  | x :: t => if rkO x < r then [] else (opc x, 0) :: popK r t
def nO : List Nat → Nat
  | [] => 0
  | x :: t => nO t + (if x = 40 then 1 else 0)
def nP : List Nat → Nat
  | [] => 0
  | x :: t => nP t + (if x = 40 then 0 else 1)
def tpo : List Nat → Nat
  | [] => 0
  | x :: _ => rkO x
def wst : List Nat → Prop
  | [] => True
  | x :: t => wst t ∧ (x = 40 ∨ (isop x = true ∧ tpo t < rkO x))
theorem isop_iff {k : Nat} : isop k = true ↔ (k = 43 ∨ k = 45 ∨ k = 42 ∨ k = 47) := by
  unfold isop
  simp only [Bool.or_eq_true, beq_iff_eq, or_assoc]
theorem rk_op {k : Nat} (h : isop k = true) : 1 ≤ rkO k ∧ rkO k ≤ 2 ∧ k ≠ 40 := by
  rcases isop_iff.mp h with rfl | rfl | rfl | rfl <;> decide
theorem rk_le (k : Nat) : rkO k ≤ 2 := by
  unfold rkO
  split
  · decide
  · split <;> decide
theorem tpo_le (st : List Nat) : tpo st ≤ 2 := by
  cases st with
  | nil => exact Nat.zero_le _
  | cons x t => exact rk_le x
theorem st_len : ∀ st : List Nat, st.length = nO st + nP st
  | [] => rfl
  | x :: t => by
    rw [List.length_cons, st_len t, nO, nP]
    split <;> omega
theorem st_bd : ∀ st : List Nat, wst st → nP st ≤ 2 * nO st + tpo st
  | [], _ => Nat.le_refl _
  | x :: t, h => by
    have h1 := st_bd t h.1
    have h2 := tpo_le t
    rw [nP, nO, tpo]
    rcases h.2 with rfl | ⟨h3, h4⟩
    · rw [if_pos rfl, if_pos rfl]; omega
    · have h5 := (rk_op h3).2.2
      rw [if_neg h5, if_neg h5]; omega
theorem pop_wst {r : Nat} : ∀ st : List Nat, wst st → wst (popS r st)
  | [], h => h
  | x :: t, h => by
    rw [popS]
    split
    · exact h
    · exact pop_wst t h.1
theorem rk40 : rkO 40 = 0 := rfl
theorem pop_nO {r : Nat} (hr : 1 ≤ r) : ∀ st : List Nat, nO (popS r st) = nO st
  | [] => rfl
  | x :: t => by
    rw [popS]
    split
    · rfl
    · rename_i g
      rw [pop_nO hr t, nO]
      have : x ≠ 40 := fun z => g (by rw [z, rk40]; omega)
      rw [if_neg this]; rfl
theorem pop_nP {r : Nat} (hr : 1 ≤ r) : ∀ st : List Nat, nP (popS r st) + (popK r st).length = nP st
  | [] => rfl
  | x :: t => by
    rw [popS, popK]
    split
    · rfl
    · rename_i g
      have : x ≠ 40 := fun z => g (by rw [z, rk40]; omega)
      rw [List.length_cons, nP, if_neg this]
      have := pop_nP hr t
      omega
theorem pop_tpo {r : Nat} (hr : 1 ≤ r) : ∀ st : List Nat, tpo (popS r st) < r
  | [] => by show 0 < r; omega
  | x :: t => by
    rw [popS]
    split
    · assumption
    · exact pop_tpo hr t
theorem pop_nil {st : List Nat} (h : wst st) (h0 : nO st = 0) : popS 1 st = [] := by
  have h1 := pop_wst (r := 1) st h
  have h2 := pop_nO (r := 1) (by decide) st
  have h3 := pop_tpo (r := 1) (by decide) st
  generalize popS 1 st = u at h1 h2 h3
  cases u with
  | nil => rfl
  | cons x t =>
    exfalso
    rw [h0, nO] at h2
    have h3 : rkO x < 1 := h3
    rcases h1.2 with rfl | ⟨g, _⟩
    · rw [if_pos rfl] at h2; omega
    · have := (rk_op g).1; omega
theorem pop_40 {st : List Nat} (h : wst st) (h0 : 0 < nO st) : ∃ u, popS 1 st = 40 :: u ∧ wst u ∧ nO u + 1 = nO st ∧ nP u + (popK 1 st).length = nP st := by
  have h1 := pop_wst (r := 1) st h
  have h2 := pop_nO (r := 1) (by decide) st
  have h3 := pop_tpo (r := 1) (by decide) st
  have h4 := pop_nP (r := 1) (by decide) st
  generalize popS 1 st = u at h1 h2 h3 h4
  cases u with
  | nil => rw [nO] at h2; omega
  | cons x t =>
    have h3 : rkO x < 1 := h3
    rcases h1.2 with rfl | ⟨g, _⟩
    · rw [nO, if_pos rfl] at h2
      rw [nP, if_pos rfl] at h4
      exact ⟨t, rfl, h1.1, h2, h4⟩
    · have := (rk_op g).1; omega
theorem push_wst {k : Nat} {st : List Nat} (hk : isop k = true) (h : wst st) : wst (k :: popS (rkO k) st) :=
  ⟨pop_wst st h, Or.inr ⟨hk, pop_tpo (rk_op hk).1 st⟩⟩
/-! the machine -/
def eBody (K V : Nat → Nat) (F : Bool → List Nat → lwC → pst × lwC) (w : Bool) (st : List Nat) (out : lwC) (t : Nat) : pst × lwC :=
  if w = true then
    if K t = 40 then (if nO st = 6 then ((t, 2, t), []) else F true (40 :: st) out)
    else if K t = 23 then F false st (out ++ [(0, nI (V t))])
    else if 13 ≤ K t ∧ K t ≤ 21 then F false st (out ++ [(1, nI (K t - 13))])
    else ((t, 1, t), [])
  else if isop (K t) = true then F true (K t :: popS (rkO (K t)) st) (out ++ popK (rkO (K t)) st)
  else if K t = 41 ∧ 0 < nO st then F false (popS 1 st).tail (out ++ popK 1 st)
  else if nO st = 0 then ((t, 0, 0), out ++ popK 1 st)
  else ((t, 1, t), [])
def eRun (K V : Nat → Nat) : Nat → Bool → List Nat → lwC → Nat → pst × lwC
  | 0, _, _, _, t => ((t, 2, t), [])
  | n + 1, w, st, out, t => eBody K V (fun w' st' out' => if t < 400 then eRun K V n w' st' out' (t + 1) else ((t, 2, t), [])) w st out t
def eR (K V : Nat → Nat) (w : Bool) (st : List Nat) (out : lwC) (t : Nat) : pst × lwC := eRun K V (401 - t) w st out t
def nxS (K V : Nat → Nat) (t : Nat) (w : Bool) (st : List Nat) (out : lwC) : pst × lwC := if t < 400 then eR K V w st out (t + 1) else ((t, 2, t), [])
theorem eR_s {K V : Nat → Nat} {w : Bool} {st : List Nat} {out : lwC} {t : Nat} (ht : t ≤ 400) : eR K V w st out t = eBody K V (nxS K V t) w st out t := by
  unfold eR
  rw [show 401 - t = (400 - t) + 1 by omega, eRun]
  have : (fun (w' : Bool) (st' : List Nat) (out' : lwC) => if t < 400 then eRun K V (400 - t) w' st' out' (t + 1) else ((t, 2, t), [])) = nxS K V t := by
    funext w' st' out'
    unfold nxS eR
    rw [show 401 - (t + 1) = 400 - t by omega]
  rw [this]
section
variable {K V : Nat → Nat} {st : List Nat} {out : lwC} {t : Nat}
theorem er_40 (ht : t ≤ 400) (h : K t = 40) : eR K V true st out t = if nO st = 6 then ((t, 2, t), []) else nxS K V t true (40 :: st) out := by
  rw [eR_s ht, eBody, if_pos rfl, if_pos h]
theorem er_23 (ht : t ≤ 400) (h : K t = 23) : eR K V true st out t = nxS K V t false st (out ++ [(0, nI (V t))]) := by
  rw [eR_s ht, eBody, if_pos rfl, if_neg (by omega), if_pos h]
theorem er_vr (ht : t ≤ 400) (h : 13 ≤ K t ∧ K t ≤ 21) : eR K V true st out t = nxS K V t false st (out ++ [(1, nI (K t - 13))]) := by
  rw [eR_s ht, eBody, if_pos rfl, if_neg (by omega), if_neg (by omega), if_pos h]
theorem er_no (ht : t ≤ 400) (h : K t ≠ 40) (h2 : K t ≠ 23) (h3 : ¬ (13 ≤ K t ∧ K t ≤ 21)) : eR K V true st out t = ((t, 1, t), []) := by
  rw [eR_s ht, eBody, if_pos rfl, if_neg h, if_neg h2, if_neg h3]
theorem er_op (ht : t ≤ 400) (h : isop (K t) = true) : eR K V false st out t = nxS K V t true (K t :: popS (rkO (K t)) st) (out ++ popK (rkO (K t)) st) := by
  rw [eR_s ht, eBody, if_neg (by decide), if_pos h]
theorem er_41 (ht : t ≤ 400) (h : K t = 41) (h0 : 0 < nO st) : eR K V false st out t = nxS K V t false (popS 1 st).tail (out ++ popK 1 st) := by
  rw [eR_s ht, eBody, if_neg (by decide), if_neg (by rw [h]; decide), if_pos ⟨h, h0⟩]
theorem er_end (ht : t ≤ 400) (h : ¬ isop (K t) = true) (h0 : nO st = 0) : eR K V false st out t = ((t, 0, 0), out ++ popK 1 st) := by
  rw [eR_s ht, eBody, if_neg (by decide), if_neg h, if_neg (by omega), if_pos h0]
theorem er_bad (ht : t ≤ 400) (h : ¬ isop (K t) = true) (h1 : K t ≠ 41) (h0 : nO st ≠ 0) : eR K V false st out t = ((t, 1, t), []) := by
  rw [eR_s ht, eBody, if_neg (by decide), if_neg h, if_neg (fun z => h1 z.1), if_neg h0]
end
theorem nx_lt {K V : Nat → Nat} {t : Nat} {w : Bool} {st : List Nat} {out : lwC} (h : t < 400) : nxS K V t w st out = eR K V w st out (t + 1) := if_pos h
theorem nx_ge {K V : Nat → Nat} {t : Nat} {w : Bool} {st : List Nat} {out : lwC} (h : ¬ t < 400) : nxS K V t w st out = ((t, 2, t), []) := if_neg h
/-! an E that ends well -/
theorem swf_pop {r : Nat} (hr : 1 ≤ r) {rest : lwC} : ∀ (st : List Nat), wst st → swf rest (nP (popS r st) + 1) → swf (popK r st ++ rest) (nP st + 1)
  | [], _, h => h
  | x :: t, hw, h => by
    rw [popS] at h
    rw [popK]
    by_cases g : rkO x < r
    · rw [if_pos g] at h ⊢; exact h
    · rw [if_neg g] at h ⊢
      have hx : x ≠ 40 := fun z => g (by rw [z, rk40]; omega)
      have hop : isop x = true := by
        rcases hw.2 with z | z
        · exact absurd z hx
        · exact z.1
      have ih := swf_pop hr t hw.1 h
      rw [nP, if_neg hx]
      refine Or.inr (Or.inr ⟨?_, by omega, ih⟩)
      rcases isop_iff.mp hop with rfl | rfl | rfl | rfl
      · exact Or.inl rfl
      · exact Or.inr (Or.inl rfl)
      · exact Or.inr (Or.inr (Or.inl rfl))
      · exact Or.inr (Or.inr (Or.inr rfl))
def dW (w : Bool) : Nat := if w = true then 0 else 1
/-- what an E that ends well has behind it -/
theorem eR_ok {K V : Nat → Nat} (hV : ∀ i, V i < 2 ^ 31) : ∀ (n : Nat) (w : Bool) (st : List Nat) (out : lwC) (t : Nat), t + n = 400 → wst st → nO st ≤ 6 → (∀ rest, swf rest (nP st + dW w) → swf (out ++ rest) 0) → ∀ t1 c x, eR K V w st out t = ((t1, 0, x), c) → x = 0 ∧ t ≤ t1 ∧ t1 ≤ 400 ∧ (w = true → t < t1) ∧ swf c 0 ∧ c.length + t ≤ out.length + nP st + t1 ∧ (∀ i, t ≤ i → i < t1 → K i ≠ 59 ∧ K i ≠ 22 ∧ K i ≠ 24 ∧ 13 ≤ K i) := by
  intro n
  induction n with
  | zero =>
    intro w st out t htn hw h6 hs t1 c x he
    have ht : t = 400 := by omega
    have hlt : ¬ t < 400 := by omega
    have bad : ∀ (k : Nat) (d : lwC), k ≠ 0 → (((t, k, t), d) : pst × lwC) = ((t1, 0, x), c) → False := by
      intro k d hk hz
      exact hk (congrArg (fun z : pst × lwC => z.1.2.1) hz)
    cases w with
    | true =>
      exfalso
      by_cases g1 : K t = 40
      · rw [er_40 (by omega) g1, nx_ge hlt] at he
        by_cases g : nO st = 6
        · rw [if_pos g] at he; exact bad 2 _ (by decide) he
        · rw [if_neg g] at he; exact bad 2 _ (by decide) he
      by_cases g2 : K t = 23
      · rw [er_23 (by omega) g2, nx_ge hlt] at he; exact bad 2 _ (by decide) he
      by_cases g3 : 13 ≤ K t ∧ K t ≤ 21
      · rw [er_vr (by omega) g3, nx_ge hlt] at he; exact bad 2 _ (by decide) he
      · rw [er_no (by omega) g1 g2 g3] at he; exact bad 1 _ (by decide) he
    | false =>
      by_cases g1 : isop (K t) = true
      · rw [er_op (by omega) g1, nx_ge hlt] at he; exact (bad 2 _ (by decide) he).elim
      by_cases g3 : nO st = 0
      · rw [er_end (by omega) g1 g3] at he
        have e1 : t = t1 := congrArg (fun z : pst × lwC => z.1.1) he
        have e3 : 0 = x := congrArg (fun z : pst × lwC => z.1.2.2) he
        have e2 : out ++ popK 1 st = c := congrArg (fun z : pst × lwC => z.2) he
        have hp := pop_nP (r := 1) (by decide) st
        have hnil := pop_nil hw g3
        rw [hnil] at hp
        refine ⟨e3.symm, by omega, by omega, fun z => (by cases z), ?_, ?_, fun i i1 i2 => by omega⟩
        · rw [← e2]
          refine hs _ ?_
          have := swf_pop (r := 1) (by decide) (rest := []) st hw (by rw [hnil]; rfl)
          rw [List.append_nil] at this
          exact this
        · rw [← e2, List.length_append]
          have : nP [] = 0 := rfl
          omega
      by_cases g2 : K t = 41
      · rw [er_41 (by omega) g2 (by omega), nx_ge hlt] at he; exact (bad 2 _ (by decide) he).elim
      · rw [er_bad (by omega) g1 g2 g3] at he; exact (bad 1 _ (by decide) he).elim
  | succ n ih =>
    intro w st out t htn hw h6 hs t1 c x he
    have hlt : t < 400 := by omega
    have bad : ∀ (k : Nat) (d : lwC), k ≠ 0 → (((t, k, t), d) : pst × lwC) = ((t1, 0, x), c) → False := by
      intro k d hk hz
      exact hk (congrArg (fun z : pst × lwC => z.1.2.1) hz)
    have hbd := st_bd st hw
    have htp := tpo_le st
    cases w with
    | true =>
      have one : ∀ (w2 : Bool) (st2 : List Nat) (out2 : lwC), (13 ≤ K t ∧ K t ≠ 59 ∧ K t ≠ 22 ∧ K t ≠ 24) → wst st2 → nO st2 ≤ 6 → (∀ rest, swf rest (nP st2 + dW w2) → swf (out2 ++ rest) 0) → out2.length + nP st2 ≤ out.length + nP st + 1 → eR K V w2 st2 out2 (t + 1) = ((t1, 0, x), c) → x = 0 ∧ t ≤ t1 ∧ t1 ≤ 400 ∧ (true = true → t < t1) ∧ swf c 0 ∧ c.length + t ≤ out.length + nP st + t1 ∧ (∀ i, t ≤ i → i < t1 → K i ≠ 59 ∧ K i ≠ 22 ∧ K i ≠ 24 ∧ 13 ≤ K i) := by
        intro w2 st2 out2 hk q1 q3 q4 q5 q6
        obtain ⟨r1, r2, r3, r4, r5, r6, r7⟩ := ih w2 st2 out2 (t + 1) (by omega) q1 q3 q4 t1 c x q6
        refine ⟨r1, by omega, r3, fun _ => by omega, r5, by omega, fun i i1 i2 => ?_⟩
        by_cases hi : i = t
        · rw [hi]; exact ⟨hk.2.1, hk.2.2.1, hk.2.2.2, hk.1⟩
        · exact r7 i (by omega) i2
      by_cases g1 : K t = 40
      · rw [er_40 (by omega) g1] at he
        by_cases g : nO st = 6
        · rw [if_pos g] at he; exact (bad 2 _ (by decide) he).elim
        · rw [if_neg g, nx_lt hlt] at he
          refine one true (40 :: st) out (by omega) ⟨hw, Or.inl rfl⟩ ?_ ?_ ?_ he
          · rw [nO, if_pos rfl]; omega
          · intro rest hr; rw [nP, if_pos rfl] at hr; exact hs rest hr
          · rw [nP, if_pos rfl]; omega
      have hunit : ∀ o : Int32 × Int32, (∀ rest, swf rest (nP st + 1) → swf (o :: rest) (nP st)) → ∀ rest, swf rest (nP st + dW false) → swf ((out ++ [o]) ++ rest) 0 := by
        intro o ho rest hr
        rw [List.append_assoc]
        exact hs _ (ho rest hr)
      by_cases g2 : K t = 23
      · rw [er_23 (by omega) g2, nx_lt hlt] at he
        refine one _ _ _ (by omega) hw h6 (hunit _ (fun rest hr => Or.inl ⟨rfl, nI_pos' (hV t), by omega, hr⟩)) ?_ he
        rw [List.length_append]; show out.length + 1 + nP st ≤ _; omega
      by_cases g3 : 13 ≤ K t ∧ K t ≤ 21
      · rw [er_vr (by omega) g3, nx_lt hlt] at he
        refine one _ _ _ (by omega) hw h6 (hunit _ (fun rest hr => Or.inr (Or.inl ⟨rfl, ⟨K t - 13, by omega, rfl⟩, by omega, hr⟩))) ?_ he
        rw [List.length_append]; show out.length + 1 + nP st ≤ _; omega
      · rw [er_no (by omega) g1 g2 g3] at he; exact (bad 1 _ (by decide) he).elim
    | false =>
      have one : ∀ (w2 : Bool) (st2 : List Nat) (out2 : lwC), (13 ≤ K t ∧ K t ≠ 59 ∧ K t ≠ 22 ∧ K t ≠ 24) → wst st2 → nO st2 ≤ 6 → (∀ rest, swf rest (nP st2 + dW w2) → swf (out2 ++ rest) 0) → out2.length + nP st2 ≤ out.length + nP st + 1 → eR K V w2 st2 out2 (t + 1) = ((t1, 0, x), c) → x = 0 ∧ t ≤ t1 ∧ t1 ≤ 400 ∧ (false = true → t < t1) ∧ swf c 0 ∧ c.length + t ≤ out.length + nP st + t1 ∧ (∀ i, t ≤ i → i < t1 → K i ≠ 59 ∧ K i ≠ 22 ∧ K i ≠ 24 ∧ 13 ≤ K i) := by
        intro w2 st2 out2 hk q1 q3 q4 q5 q6
        obtain ⟨r1, r2, r3, r4, r5, r6, r7⟩ := ih w2 st2 out2 (t + 1) (by omega) q1 q3 q4 t1 c x q6
        refine ⟨r1, by omega, r3, fun _ => by omega, r5, by omega, fun i i1 i2 => ?_⟩
        by_cases hi : i = t
        · rw [hi]; exact ⟨hk.2.1, hk.2.2.1, hk.2.2.2, hk.1⟩
        · exact r7 i (by omega) i2
      by_cases g1 : isop (K t) = true
      · rw [er_op (by omega) g1, nx_lt hlt] at he
        have hrk := rk_op g1
        have hk4 := isop_iff.mp g1
        have hpn := pop_nP hrk.1 st
        have hpo := pop_nO hrk.1 st
        refine one _ _ _ (by omega) (push_wst g1 hw) ?_ ?_ ?_ he
        · rw [nO, if_neg hrk.2.2, hpo]; omega
        · intro rest hr
          rw [nP, if_neg hrk.2.2] at hr
          rw [List.append_assoc]
          exact hs _ (swf_pop hrk.1 st hw hr)
        · rw [nP, if_neg hrk.2.2, List.length_append]; omega
      by_cases g3 : nO st = 0
      · rw [er_end (by omega) g1 g3] at he
        have e1 : t = t1 := congrArg (fun z : pst × lwC => z.1.1) he
        have e3 : 0 = x := congrArg (fun z : pst × lwC => z.1.2.2) he
        have e2 : out ++ popK 1 st = c := congrArg (fun z : pst × lwC => z.2) he
        have hp := pop_nP (r := 1) (by decide) st
        have hnil := pop_nil hw g3
        rw [hnil] at hp
        refine ⟨e3.symm, by omega, by omega, fun z => (by cases z), ?_, ?_, fun i i1 i2 => by omega⟩
        · rw [← e2]
          refine hs _ ?_
          have := swf_pop (r := 1) (by decide) (rest := []) st hw (by rw [hnil]; rfl)
          rw [List.append_nil] at this
          exact this
        · rw [← e2, List.length_append]
          have : nP [] = 0 := rfl
          omega
      by_cases g2 : K t = 41
      · rw [er_41 (by omega) g2 (by omega), nx_lt hlt] at he
        obtain ⟨u, u1, u2, u3, u4⟩ := pop_40 hw (by omega)
        rw [u1, List.tail_cons] at he
        refine one _ _ _ (by omega) u2 (by omega) ?_ ?_ he
        · intro rest hr
          rw [List.append_assoc]
          refine hs _ (swf_pop (by decide) st hw ?_)
          rw [u1, nP, if_pos rfl]
          exact hr
        · rw [List.length_append]; omega
      · rw [er_bad (by omega) g1 g2 g3] at he; exact (bad 1 _ (by decide) he).elim
