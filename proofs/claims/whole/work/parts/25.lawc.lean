/-! laws on the class's side: a flat code with its own interpreter -/
def encO (o : Int32 × Int32) : Int32 := if o.1 = 0 then o.2 else if o.1 = 1 then -(o.2 + 13) else if o.1 = 2 then -43 else if o.1 = 3 then -45 else if o.1 = 4 then -42 else -47
def flB : lwB → List Int32
  | (some (c1, c2), c3) => c1.map encO ++ (c2.map encO ++ ((-60) :: (c3.map encO ++ [-59])))
  | (none, c3) => c3.map encO ++ [-59]
def flat : List lwB → List Int32
  | [] => []
  | b :: t => flB b ++ flat t
def ans (vars : Nat → Int32) : List Int32 → List Int32 → Bool → Int32
  | [], _, _ => 0
  | op :: t, st, true => ans vars t st (decide (op ≠ -59))
  | op :: t, st, false => if 0 ≤ op ∨ (-21 ≤ op ∧ op ≤ -13) then (if 32 ≤ st.length then 0 else ans vars t ((if op < 0 then vars (-op - 13).toNatClampNeg else op) :: st) false)
    else if op = -59 then st.headD 0
    else match st with
      | b :: a :: r => if op = -60 then ans vars t r (decide (b ≤ a)) else if op = -43 then ans vars t ((a + b) :: r) false else if op = -45 then ans vars t ((a - b) :: r) false else if op = -42 then ans vars t ((a * b) :: r) false else if b = 0 then 0 else ans vars t ((a / b) :: r) false
      | _ => 0
theorem ans_n {vars : Nat → Int32} {st : List Int32} {b : Bool} : ans vars [] st b = 0 := by cases b <;> rfl
theorem ans_t {vars : Nat → Int32} {op : Int32} {t st : List Int32} : ans vars (op :: t) st true = ans vars t st (decide (op ≠ -59)) := rfl
theorem ans_f {vars : Nat → Int32} {op : Int32} {t st : List Int32} : ans vars (op :: t) st false = if 0 ≤ op ∨ (-21 ≤ op ∧ op ≤ -13) then (if 32 ≤ st.length then 0 else ans vars t ((if op < 0 then vars (-op - 13).toNatClampNeg else op) :: st) false)
    else if op = -59 then st.headD 0
    else match st with
      | b :: a :: r => if op = -60 then ans vars t r (decide (b ≤ a)) else if op = -43 then ans vars t ((a + b) :: r) false else if op = -45 then ans vars t ((a - b) :: r) false else if op = -42 then ans vars t ((a * b) :: r) false else if b = 0 then 0 else ans vars t ((a / b) :: r) false
      | _ => 0 := rfl
theorem enc_var : ∀ j, j < 9 → (¬ (0 ≤ -(nI j + 13)) ∧ -21 ≤ -(nI j + 13) ∧ -(nI j + 13) ≤ -13 ∧ -(nI j + 13) < 0 ∧ -(-(nI j + 13)) - 13 = nI j ∧ -(nI j + 13) ≠ -59) := by decide
theorem enc_ne {o : Int32 × Int32} {t : lwC} {d : Nat} (h : swf (o :: t) d) : encO o ≠ -59 := by
  obtain ⟨k, v⟩ := o
  rcases h with ⟨h1, h2, _⟩ | ⟨h1, ⟨j, hj, h2⟩, _⟩ | ⟨h1, _⟩
  · have h1 : k = 0 := h1
    subst h1
    intro z
    have z : v = -59 := z
    have h2 : (0 : Int32) ≤ v := h2
    rw [z] at h2
    exact absurd h2 (by decide)
  · have h1 : k = 1 := h1
    have h2 : v = nI j := h2
    subst h1
    subst h2
    exact (enc_var j hj).2.2.2.2.2
  · have h1 : k = 2 ∨ k = 3 ∨ k = 4 ∨ k = 5 := h1
    rcases h1 with rfl | rfl | rfl | rfl
    · exact (show (-43 : Int32) ≠ -59 by decide)
    · exact (show (-45 : Int32) ≠ -59 by decide)
    · exact (show (-42 : Int32) ≠ -59 by decide)
    · exact (show (-47 : Int32) ≠ -59 by decide)
theorem swf_tl {o : Int32 × Int32} {t : lwC} {d : Nat} (h : swf (o :: t) d) : ∃ d', swf t d' := by
  rcases h with ⟨_, _, _, h⟩ | ⟨_, _, _, h⟩ | ⟨_, _, h⟩ <;> exact ⟨_, h⟩
/-- passing over a term -/
theorem ans_skip {vars : Nat → Int32} {st rest : List Int32} : ∀ (c : lwC) (d : Nat), swf c d → ans vars (c.map encO ++ rest) st true = ans vars rest st true
  | [], _, _ => rfl
  | o :: t, d, h => by
    obtain ⟨d', h'⟩ := swf_tl h
    rw [List.map_cons, List.cons_append, ans_t, decide_eq_true (enc_ne h)]
    exact ans_skip t d' h'
theorem ans_term {vars : Nat → Int32} {rest base : List Int32} (hb : base.length ≤ 1) : ∀ (c : lwC) (st : List Int32), swf c st.length → ans vars (c.map encO ++ rest) (st ++ base) false = match srun vars c st with
    | some st2 => ans vars rest (st2 ++ base) false
    | none => 0
  | [], st, _ => rfl
  | (k, v) :: t, st, h => by
    rw [List.map_cons, List.cons_append, ans_f, srun_c]
    rcases h with ⟨h1, h2, h3, h4⟩ | ⟨h1, ⟨j, hj, h2⟩, h3, h4⟩ | ⟨h1, h3, h4⟩
    · have h1 : k = 0 := h1
      have h2 : (0 : Int32) ≤ v := h2
      subst h1
      have e : encO (0, v) = v := rfl
      rw [e, if_pos (Or.inl h2), if_neg (by rw [List.length_append]; omega), if_neg (Int32.not_lt.mpr h2), sop_0, Option.bind_some]
      exact ans_term hb t (v :: st) h4
    · have h1 : k = 1 := h1
      have h2 : v = nI j := h2
      subst h1
      subst h2
      have e : encO (1, nI j) = -(nI j + 13) := rfl
      obtain ⟨g1, g2, g3, g4, g5, g6⟩ := enc_var j hj
      rw [e, if_pos (Or.inr ⟨g2, g3⟩), if_neg (by rw [List.length_append]; omega), if_pos g4, g5, sop_1, Option.bind_some]
      exact ans_term hb t (_ :: st) h4
    · match st, h3, h4 with
      | b :: a :: r, h3, h4 =>
        have h1 : k = 2 ∨ k = 3 ∨ k = 4 ∨ k = 5 := h1
        rcases h1 with rfl | rfl | rfl | rfl
        · have e : encO (2, v) = -43 := rfl
          rw [e, if_neg (by decide), if_neg (by decide), sop_2, Option.bind_some]
          exact ans_term hb t (_ :: r) h4
        · have e : encO (3, v) = -45 := rfl
          rw [e, if_neg (by decide), if_neg (by decide), sop_3, Option.bind_some]
          exact ans_term hb t (_ :: r) h4
        · have e : encO (4, v) = -42 := rfl
          rw [e, if_neg (by decide), if_neg (by decide), sop_4, Option.bind_some]
          exact ans_term hb t (_ :: r) h4
        · have e : encO (5, v) = -47 := rfl
          rw [e, if_neg (by decide), if_neg (by decide), sop_5]
          show (if (-47 : Int32) = -60 then _ else if (-47 : Int32) = -43 then _ else if (-47 : Int32) = -45 then _ else if (-47 : Int32) = -42 then _ else if b = 0 then 0 else ans vars (t.map encO ++ rest) ((a / b) :: (r ++ base)) false) = _
          rw [if_neg (by decide), if_neg (by decide), if_neg (by decide), if_neg (by decide)]
          by_cases hb0 : b = 0
          · rw [if_pos hb0, if_pos hb0]
            rfl
          · rw [if_neg hb0, if_neg hb0, Option.bind_some]
            exact ans_term hb t (_ :: r) h4
theorem tv_none {vars : Nat → Int32} {c : lwC} (hw : swf c 0) (h : srun vars c [] = none) : tv vars c = none := by rw [tv, h]
theorem ans_law {vars : Nat → Int32} : ∀ (brs : List lwB), lwf brs → ans vars (flat brs) [] false = lawV vars brs
  | [], _ => rfl
  | (none, c3) :: t, h => by
    have h1 : swf c3 0 := h.1
    rw [flat, flB, List.append_assoc]
    have := ans_term (vars := vars) (rest := [-59] ++ flat t) (base := []) (by decide) c3 [] h1
    rw [List.append_nil] at this
    rw [this, lawV]
    cases h2 : srun vars c3 [] with
    | none => rw [tv_none h1 h2]; rfl
    | some st =>
      obtain ⟨v, rfl, hv⟩ := tv_of h1 h2
      rw [hv]
      rfl
  | (some (c1, c2), c3) :: t, h => by
    obtain ⟨w1, w2, w3, w4⟩ := h
    rw [flat, flB, List.append_assoc]
    have e1 := ans_term (vars := vars) (rest := (c2.map encO ++ ((-60) :: (c3.map encO ++ [-59]))) ++ flat t) (base := []) (by decide) c1 [] w1
    rw [List.append_nil] at e1
    rw [e1, lawV]
    cases h1 : srun vars c1 [] with
    | none => rw [tv_none w1 h1]
    | some st =>
      obtain ⟨u, rfl, hu⟩ := tv_of w1 h1
      rw [hu]
      show ans vars ((c2.map encO ++ ((-60) :: (c3.map encO ++ [-59]))) ++ flat t) ([] ++ [u]) false = _
      rw [List.append_assoc, ans_term (base := [u]) (Nat.le_refl 1) c2 [] w2]
      cases h2 : srun vars c2 [] with
      | none => rw [tv_none w2 h2]
      | some st =>
        obtain ⟨v, rfl, hv⟩ := tv_of w2 h2
        rw [hv]
        show ans vars ((-60) :: ((c3.map encO ++ [-59]) ++ flat t)) [v, u] false = _
        rw [ans_f, if_neg (by decide), if_neg (by decide)]
        show ans vars ((c3.map encO ++ [-59]) ++ flat t) [] (decide (v ≤ u)) = if u < v then (tv vars c3).getD 0 else lawV vars t
        rw [List.append_assoc]
        by_cases huv : u < v
        · rw [if_pos huv, decide_eq_false (Int32.not_le.mpr huv)]
          have e3 := ans_term (vars := vars) (rest := [-59] ++ flat t) (base := []) (by decide) c3 [] w3
          rw [List.append_nil] at e3
          rw [e3]
          cases h3 : srun vars c3 [] with
          | none => rw [tv_none w3 h3]; rfl
          | some st =>
            obtain ⟨x, rfl, hx⟩ := tv_of w3 h3
            rw [hx]
            rfl
        · rw [if_neg huv, decide_eq_true (Int32.not_lt.mp huv), ans_skip c3 0 w3]
          show ans vars (flat t) [] (decide ((-59 : Int32) ≠ -59)) = _
          rw [decide_eq_false (by decide)]
          exact ans_law t w4
def cLaw (G : Nat → Nat → Int32) (q : Nat) (brs : List lwB) : Prop := G q 3 = nI (flat brs).length ∧ (flat brs).length ≤ 400 ∧ ∀ j (h : j < (flat brs).length), G (q + 1) j = (flat brs)[j]
theorem ansC {S : qv_St} {q v : Nat} {code : List Int32} (hu : S.1 q 3 = nI code.length) (hl : code.length ≤ 400) (hc : ∀ j (h : j < code.length), S.1 (q + 1) j = code[j]) (hv : v ≠ q + 2) : okk (fX2_answer S q v) (fun z => z.2 = ans (S.1 v) code [] false ∧ ∃ P, z.1 = qs S (q + 2) P) := by
  unfold fX2_answer
  have hN5 := qN
  generalize qv_N = N at hN5 ⊢
  simp only [qj_e, qb_e]
  refine ok_lp4 (fun n S1 x2 x3 x4 => ∃ a c st P, ∃ b : Bool, n = c.length ∧ S1 = qs S (q + 2) P ∧ x2 = nI st.length ∧ x3 = (if b = true then 1 else 0) ∧ x4 = nI a ∧ a + c.length = code.length ∧ code.drop a = c ∧ st.length ≤ 32 ∧ prep P st ∧ ans (S.1 v) c st b = ans (S.1 v) code [] false) ?_ N code.length S 0 0 0 ⟨0, code, [], S.1 (q + 2), false, rfl, qs_id.symm, rfl, rfl, rfl, by omega, rfl, by decide, trivial, rfl⟩ (by omega)
  rintro self n S1 x2 x3 x4 ⟨a, c, st, P, b, rfl, rfl, rfl, rfl, rfl, hac, hd, hst, hp, hr⟩ ih
  have q1 : (qs S (q + 2) P).1 q = S.1 q := qs_ne (by omega)
  have q2 : (qs S (q + 2) P).1 (q + 1) = S.1 (q + 1) := qs_ne (by omega)
  have q3 : (qs S (q + 2) P).1 v = S.1 v := qs_ne hv
  rw [q1, hu]
  match c, hac, hd, hr, ih with
  | [], hac, hd, hr, ih =>
    refine ok_pos (nI_le (by simp at hac; omega) (by omega)) (ok_s ⟨?_, P, rfl⟩)
    rw [← hr, ans_n]
  | op :: t, hac, hd, hr, ih =>
    rw [List.length_cons] at hac
    have hop : S.1 (q + 1) a = op := by
      rw [hc a (by omega)]
      have := congrArg (fun l => l[0]?) hd
      simp only [List.getElem?_drop, Nat.add_zero, List.getElem?_cons_zero] at this
      rw [List.getElem?_eq_getElem (by omega)] at this
      exact Option.some.inj this
    have hd2 : code.drop (a + 1) = t := by
      rw [← List.tail_drop, hd]; rfl
    refine ok_neg (nI_ge (by omega) (by omega)) ?_
    refine ok_ck a rfl (by omega) (by omega) ?_
    rw [qi_cl (by omega : a < 2 ^ 31), q2, q3, hop, qs_eq, nI_1 a]
    have step : ∀ (st2 : List Int32) (P2 : Nat → Int32) (b2 : Bool) (x3 : Int32), x3 = (if b2 = true then 1 else 0) → prep P2 st2 → st2.length ≤ 32 → ans (S.1 v) t st2 b2 = ans (S.1 v) (op :: t) st b → okk (self (qs S (q + 2) P2) (nI st2.length) x3 (nI (a + 1))) (fun z => z.2 = ans (S.1 v) code [] false ∧ ∃ P, z.1 = qs S (q + 2) P) := by
      intro st2 P2 b2 x3 hx3 hp2 hs2 ha
      exact ih t.length _ _ _ _ (Nat.lt_succ_self _) ⟨a + 1, t, st2, P2, b2, rfl, rfl, rfl, hx3, rfl, by omega, hd2, hs2, hp2, ha.trans hr⟩
    cases b with
    | true =>
      refine ok_neg (by decide) ?_
      refine ok_if (fun h => ?_) (fun h => ?_)
      · exact step st P false 0 rfl hp hst (by rw [ans_t, decide_eq_false (fun z => z h)])
      · exact step st P true 1 rfl hp hst (by rw [ans_t, decide_eq_true h])
    | false =>
      refine ok_pos rfl ?_
      have hpush : ∀ x : Int32, st.length < 32 → ans (S.1 v) t (x :: st) false = ans (S.1 v) (op :: t) st false → okk (qv_ck (nI st.length) 32 (self (qv_si (qs S (q + 2) P) (q + 2) (nI st.length).toNatClampNeg x) (nI st.length + 1) (if false = true then 1 else 0) (nI (a + 1)))) (fun z => z.2 = ans (S.1 v) code [] false ∧ ∃ P, z.1 = qs S (q + 2) P) := by
        intro x hs ha
        refine ok_ck _ rfl hs (by omega) ?_
        rw [qi_cl (by omega : st.length < 2 ^ 31), nI_1, qs_si, qs_qs, qs_eq]
        exact step (x :: st) _ false _ rfl (prep_push hp) hs ha
      have hlit : 0 ≤ op → okk (if nI st.length < 32 then (if op < 0 then qv_ck (-op - 13) 9 (qv_ck (nI st.length) 32 (self (qv_si (qs S (q + 2) P) (q + 2) (nI st.length).toNatClampNeg (S.1 v (-op - 13).toNatClampNeg)) (nI st.length + 1) (if false = true then 1 else 0) (nI (a + 1)))) else qv_ck (nI st.length) 32 (self (qv_si (qs S (q + 2) P) (q + 2) (nI st.length).toNatClampNeg op) (nI st.length + 1) (if false = true then 1 else 0) (nI (a + 1)))) else some (qs S (q + 2) P, 0)) (fun z => z.2 = ans (S.1 v) code [] false ∧ ∃ P, z.1 = qs S (q + 2) P) := by
        intro h0
        refine ok_if (fun h => ?_) (fun h => ok_s ⟨?_, P, rfl⟩)
        · have h : st.length < 32 := (nI_ltI (by omega) (by decide)).mp h
          refine ok_neg (Int32.not_lt.mpr h0) (hpush op h ?_)
          rw [ans_f, if_pos (Or.inl h0), if_neg (by omega), if_neg (Int32.not_lt.mpr h0)]
        · have h : ¬ st.length < 32 := fun z => h (nI_lt (b := 32) z (by decide))
          rw [← hr, ans_f, if_pos (Or.inl h0), if_pos (by omega)]
      refine ok_if hlit (fun h0 => ?_)
      have hops : ¬ (-21 ≤ op ∧ op ≤ -13) → okk (if op = -59 then (if nI st.length ≤ 0 then some (qs S (q + 2) P, 0) else qv_ck (nI st.length - 1) 32 (some (qs S (q + 2) P, P (nI st.length - 1).toNatClampNeg))) else if 2 ≤ nI st.length then qv_ck (nI st.length - 1) 32 (qv_ck (nI st.length - 2) 32 (if op = -60 then (if P (nI st.length - 2).toNatClampNeg < P (nI st.length - 1).toNatClampNeg then self (qs S (q + 2) P) (nI st.length + (-1) + (-1)) 0 (nI (a + 1)) else self (qs S (q + 2) P) (nI st.length + (-1) + (-1)) 1 (nI (a + 1))) else if op = -43 then qv_ck (nI st.length + (-1) - 1) 32 (self (qv_si (qs S (q + 2) P) (q + 2) (nI st.length + (-1) - 1).toNatClampNeg (P (nI st.length - 2).toNatClampNeg + P (nI st.length - 1).toNatClampNeg)) (nI st.length + (-1)) (if false = true then 1 else 0) (nI (a + 1))) else if op = -45 then qv_ck (nI st.length + (-1) - 1) 32 (self (qv_si (qs S (q + 2) P) (q + 2) (nI st.length + (-1) - 1).toNatClampNeg (P (nI st.length - 2).toNatClampNeg - P (nI st.length - 1).toNatClampNeg)) (nI st.length + (-1)) (if false = true then 1 else 0) (nI (a + 1))) else if op = -42 then qv_ck (nI st.length + (-1) - 1) 32 (self (qv_si (qs S (q + 2) P) (q + 2) (nI st.length + (-1) - 1).toNatClampNeg (P (nI st.length - 2).toNatClampNeg * P (nI st.length - 1).toNatClampNeg)) (nI st.length + (-1)) (if false = true then 1 else 0) (nI (a + 1))) else if P (nI st.length - 1).toNatClampNeg = 0 then some (qs S (q + 2) P, 0) else qv_nz (P (nI st.length - 1).toNatClampNeg) (qv_ck (nI st.length + (-1) - 1) 32 (self (qv_si (qs S (q + 2) P) (q + 2) (nI st.length + (-1) - 1).toNatClampNeg (P (nI st.length - 2).toNatClampNeg / P (nI st.length - 1).toNatClampNeg)) (nI st.length + (-1)) (if false = true then 1 else 0) (nI (a + 1)))))) else some (qs S (q + 2) P, 0)) (fun z => z.2 = ans (S.1 v) code [] false ∧ ∃ P, z.1 = qs S (q + 2) P) := by
        intro hv0
        have hnl : ¬ (0 ≤ op ∨ (-21 ≤ op ∧ op ≤ -13)) := fun z => z.elim h0 hv0
        refine ok_if (fun h => ?_) (fun h => ?_)
        · match st, hst, hp, hr with
          | [], hst, hp, hr =>
            refine ok_pos (by decide) (ok_s ⟨?_, P, rfl⟩)
            rw [← hr, ans_f, if_neg hnl, if_pos h]; rfl
          | x :: r, hst, hp, hr =>
            have e : nI (x :: r).length - 1 = nI r.length := nI_pred _
            refine ok_neg (nI_nle (Nat.succ_pos _) (by omega)) ?_
            rw [e]
            rw [List.length_cons] at hst
            refine ok_ck _ rfl (by omega) (by omega) (ok_s ⟨?_, P, rfl⟩)
            rw [← hr, ans_f, if_neg hnl, if_pos h, qi_cl (by omega)]
            exact hp.1
        · match st, hst, hp, hr, step with
          | [], hst, hp, hr, step =>
            refine ok_neg (by decide) (ok_s ⟨?_, P, rfl⟩)
            rw [← hr, ans_f, if_neg hnl, if_neg h]
          | [x], hst, hp, hr, step =>
            refine ok_neg (show ¬ (2 : Int32) ≤ nI 1 by decide) (ok_s ⟨?_, P, rfl⟩)
            rw [← hr, ans_f, if_neg hnl, if_neg h]
          | y :: x :: r, hst, hp, hr, step =>
            rw [List.length_cons, List.length_cons] at hst
            have e1 : nI (y :: x :: r).length - 1 = nI (r.length + 1) := nI_pred _
            have e2 : nI (y :: x :: r).length - 2 = nI r.length := pk_sub (a := r.length + 2) (b := 2) (by omega)
            have e3 : nI (y :: x :: r).length + (-1) = nI (r.length + 1) := pk_m1 _
            have e4 : nI (r.length + 1) + (-1) = nI r.length := pk_m1 _
            have e5 : nI (r.length + 1) - 1 = nI r.length := nI_pred _
            have hy : P (r.length + 1) = y := hp.1
            have hx : P r.length = x := hp.2.1
            rw [e1, e2, e3, e4, e5, qi_cl (by omega : r.length < 2 ^ 31), qi_cl (by omega : r.length + 1 < 2 ^ 31), hy, hx]
            have hin : ∀ w, ans (S.1 v) t (w :: r) false = ans (S.1 v) (op :: t) (y :: x :: r) false → okk (qv_ck (nI r.length) 32 (self (qv_si (qs S (q + 2) P) (q + 2) r.length w) (nI (r.length + 1)) (if false = true then 1 else 0) (nI (a + 1)))) (fun z => z.2 = ans (S.1 v) code [] false ∧ ∃ P, z.1 = qs S (q + 2) P) := by
              intro w ha
              refine ok_ck _ rfl (by omega) (by omega) ?_
              rw [qs_si, qs_qs, qs_eq]
              exact step (w :: r) _ false _ rfl (prep_push hp.2.2) (by rw [List.length_cons]; omega) ha
            refine ok_pos (nI_le (a := 2) (by simp) (by simp; omega)) (ok_ck _ rfl (by omega) (by omega) (ok_ck _ rfl (by omega) (by omega) ?_))
            have ea : ans (S.1 v) (op :: t) (y :: x :: r) false = if op = -60 then ans (S.1 v) t r (decide (y ≤ x)) else if op = -43 then ans (S.1 v) t ((x + y) :: r) false else if op = -45 then ans (S.1 v) t ((x - y) :: r) false else if op = -42 then ans (S.1 v) t ((x * y) :: r) false else if y = 0 then 0 else ans (S.1 v) t ((x / y) :: r) false := by
              rw [ans_f, if_neg hnl, if_neg h]
            refine ok_if (fun g => ?_) (fun g => ?_)
            · rw [if_pos g] at ea
              refine ok_if (fun g2 => ?_) (fun g2 => ?_)
              · exact step r P false 0 rfl hp.2.2 (by omega) (by rw [ea, decide_eq_false (Int32.not_le.mpr g2)])
              · exact step r P true 1 rfl hp.2.2 (by omega) (by rw [ea, decide_eq_true (Int32.not_lt.mp g2)])
            rw [if_neg g] at ea
            refine ok_if (fun g => ?_) (fun g => ?_)
            · rw [if_pos g] at ea; exact hin _ ea.symm
            rw [if_neg g] at ea
            refine ok_if (fun g => ?_) (fun g => ?_)
            · rw [if_pos g] at ea; exact hin _ ea.symm
            rw [if_neg g] at ea
            refine ok_if (fun g => ?_) (fun g => ?_)
            · rw [if_pos g] at ea; exact hin _ ea.symm
            rw [if_neg g] at ea
            refine ok_if (fun g => ok_s ⟨?_, P, rfl⟩) (fun g => ?_)
            · rw [if_pos g] at ea; rw [← hr, ea]
            rw [if_neg g] at ea
            exact ok_nz g (hin _ ea.symm)
      refine ok_if (fun h1 => hops (fun z => Int32.not_le.mpr h1 z.1)) (fun h1 => ?_)
      refine ok_if (fun h2 => hops (fun z => Int32.not_le.mpr h2 z.2)) (fun h2 => ?_)
      have h1 : -21 ≤ op := Int32.not_lt.mp h1
      have h2 : op ≤ -13 := Int32.not_lt.mp h2
      have hneg : op < 0 := Int32.not_le.mp h0
      refine ok_if (fun h => ?_) (fun h => ok_s ⟨?_, P, rfl⟩)
      · have h : st.length < 32 := (nI_ltI (by omega) (by decide)).mp h
        obtain ⟨j, hj, ej⟩ : ∃ j, j < 9 ∧ -op - 13 = nI j := by
          have b1 := Int32.le_iff_toInt_le.mp h1
          have b2 := Int32.le_iff_toInt_le.mp h2
          have c1 : Int32.toInt (-21) = -21 := by decide
          have c2 : Int32.toInt (-13) = -13 := by decide
          rw [c1] at b1
          rw [c2] at b2
          refine ⟨(-op.toInt - 13).toNat, by omega, ?_⟩
          apply Int32.toInt_inj.mp
          rw [nI_toInt (by omega), Int32.toInt_sub, Int32.toInt_neg, show Int32.toInt 13 = 13 by decide]
          rw [Int.toNat_of_nonneg (by omega)]
          have : (-op.toInt).bmod (2 ^ 32) = -op.toInt := by
            rw [Int.bmod_eq_of_le] <;> omega
          rw [this, Int.bmod_eq_of_le] <;> omega
        refine ok_pos hneg (ok_ck j ej hj (by omega) (hpush _ h ?_))
        rw [ans_f, if_pos (Or.inr ⟨h1, h2⟩), if_neg (by omega), if_pos hneg]
      · have h : ¬ st.length < 32 := fun z => h (nI_lt (b := 32) z (by decide))
        rw [← hr, ans_f, if_pos (Or.inr ⟨h1, h2⟩), if_pos (by omega)]
theorem answerC {S : qv_St} {q v : Nat} {brs : List lwB} (hc : cLaw S.1 q brs) (hw : lwf brs) (hv : v ≠ q + 2) : okk (fX2_answer S q v) (fun z => z.2 = lawV (S.1 v) brs ∧ ∃ P, z.1 = qs S (q + 2) P) :=
  ok_mono (ansC hc.1 hc.2.1 hc.2.2 hv) (fun z h => ⟨h.1.trans (ans_law brs hw), h.2⟩)
