/-! the class learns a law -/
def lAt (A : Nat → Int32) : Nat → List Int32 → Prop
  | _, [] => True
  | a, x :: t => A a = x ∧ lAt A (a + 1) t
theorem lAt_snoc {A : Nat → Int32} {x : Int32} : ∀ (l : List Int32) (a : Nat), lAt A a l → lAt (upd A (a + l.length) x) a (l ++ [x])
  | [], a, _ => ⟨upd_eq, trivial⟩
  | y :: t, a, h => by
    refine ⟨?_, ?_⟩
    · rw [upd_ne (by simp only [List.length_cons]; omega)]; exact h.1
    · have := lAt_snoc (x := x) t (a + 1) h.2
      rw [show a + 1 + t.length = a + (y :: t).length by simp only [List.length_cons]; omega] at this
      exact this
theorem lAt_get {A : Nat → Int32} : ∀ (l : List Int32) (a : Nat), lAt A a l → ∀ j (h : j < l.length), A (a + j) = l[j]
  | [], _, _, j, h => absurd h (Nat.not_lt_zero _)
  | y :: t, a, hl, j, h => by
    cases j with
    | zero => exact hl.1
    | succ j =>
      have := lAt_get t (a + 1) hl.2 j (by simp only [List.length_cons] at h; omega)
      rw [show a + 1 + j = a + (j + 1) by omega] at this
      exact this
def lcd (q : Nat) (pre : List Int32) (S : qv_St) : Prop := S.1 q 3 = nI pre.length ∧ lAt (S.1 (q + 1)) 0 pre
def lst (q : Nat) (st : List Nat) (S : qv_St) : Prop := S.1 q 4 = nI st.length ∧ prep (S.1 (q + 3)) (st.map nI)
def fcL (q : Nat) (S Z : qv_St) : Prop := (∀ r, r ≠ q → r ≠ q + 1 → r ≠ q + 3 → Z.1 r = S.1 r) ∧ Z.2 = S.2
theorem fcL_rfl {q : Nat} {S : qv_St} : fcL q S S := ⟨fun _ _ _ _ => rfl, rfl⟩
theorem fcL_trans {q : Nat} {S T U : qv_St} (h : fcL q S T) (g : fcL q T U) : fcL q S U := ⟨fun r a b c => (g.1 r a b c).trans (h.1 r a b c), g.2.trans h.2⟩
theorem lcd_len {q : Nat} {pre : List Int32} {S : qv_St} (h : lcd q pre S) (hl : pre.length ≤ 400) (brs : List lwB) (e : pre = flat brs) : cLaw S.1 q brs := by
  subst e
  refine ⟨h.1, hl, fun j hj => ?_⟩
  have := lAt_get _ 0 h.2 j hj
  rw [Nat.zero_add] at this
  exact this
theorem emitL {q : Nat} {pre : List Int32} {S : qv_St} {x : Int32} (h : lcd q pre S) (hl : pre.length < 400) : okk (fX2_emit S q x) (fun Z => lcd q (pre ++ [x]) Z ∧ Z.1 q 4 = S.1 q 4 ∧ Z.1 (q + 3) = S.1 (q + 3) ∧ fcL q S Z) := by
  unfold fX2_emit
  rw [h.1]
  refine ok_neg (show ¬ (400 : Int32) ≤ nI pre.length from nI_ge (b := 400) hl (by decide)) (ok_ck _ rfl hl (by decide) ?_)
  rw [qi_cl (by omega)]
  simp only [qb_e]
  have e0 : (qv_si S (q + 1) pre.length x).1 q = S.1 q := by rw [qs_si, qs_ne (by omega)]
  rw [e0, h.1, nI_1]
  refine ok_s ⟨⟨?_, ?_⟩, ?_, ?_, fun r r1 r2 r3 => ?_, rfl⟩
  · rw [qs_si, qs_eq, upd_eq, List.length_append]; rfl
  · rw [qs_si, qs_ne (by omega), qs_si, qs_eq]
    have := lAt_snoc (x := x) pre 0 h.2
    rw [Nat.zero_add] at this
    exact this
  · rw [qs_si, qs_eq, upd_ne (by decide), e0]
  · rw [qs_si, qs_ne (by omega), qs_si, qs_ne (by omega)]
  · rw [qs_si, qs_ne r1, qs_si, qs_ne r2]
theorem rankC {k : Nat} (hk : k < 2 ^ 31) : fX2_rankOf (nI k) = some (nI (rkO k)) := by
  unfold fX2_rankOf rkO
  simp only [qj_e]
  by_cases g1 : k = 43
  · subst g1; rfl
  rw [if_neg (show ¬ nI k = 43 from fun z => g1 ((nI_eq (b := 43) hk (by decide)).mp z))]
  by_cases g2 : k = 45
  · subst g2; rfl
  rw [if_neg (show ¬ nI k = 45 from fun z => g2 ((nI_eq (b := 45) hk (by decide)).mp z)), if_neg (by omega : ¬ (k = 43 ∨ k = 45))]
  by_cases g3 : k = 42
  · subst g3; rfl
  rw [if_neg (show ¬ nI k = 42 from fun z => g3 ((nI_eq (b := 42) hk (by decide)).mp z))]
  by_cases g4 : k = 47
  · subst g4; rfl
  rw [if_neg (show ¬ nI k = 47 from fun z => g4 ((nI_eq (b := 47) hk (by decide)).mp z)), if_neg (by omega : ¬ (k = 42 ∨ k = 47))]
  rfl
theorem encO_op {x : Nat} (h : isop x = true) : encO (opc x, 0) = -(nI x) := by
  rcases isop_iff.mp h with rfl | rfl | rfl | rfl <;> decide
theorem opsL {q r : Nat} {st : List Nat} {pre : List Int32} {S : qv_St} (hc : lcd q pre S) (hs : lst q st S) (hw : wst st) (hl : st.length ≤ 30) (hr : 1 ≤ r) (hr2 : r ≤ 2) (hb : pre.length + nP st ≤ 400) : okk (fX2_emitOperators S q (nI r)) (fun Z => lcd q (pre ++ (popK r st).map encO) Z ∧ lst q (popS r st) Z ∧ fcL q S Z) := by
  unfold fX2_emitOperators
  have hN5 := qN
  generalize qv_N = N at hN5 ⊢
  refine ok_lp1 (fun n T => ∃ u o, n = u.length ∧ lcd q o T ∧ lst q u T ∧ wst u ∧ popS r u = popS r st ∧ o ++ (popK r u).map encO = pre ++ (popK r st).map encO ∧ fcL q S T ∧ o.length + nP u ≤ 400 ∧ u.length ≤ 30) ?_ N st.length S ⟨st, pre, rfl, hc, hs, hw, rfl, rfl, fcL_rfl, hb, hl⟩ (by omega)
  rintro self n T ⟨u, o, rfl, uc, us, uw, up, uo, uf, ub, ul⟩ ih
  cases u with
  | nil =>
    refine ok_pos (by rw [us.1]; decide) (ok_s ⟨?_, ?_, uf⟩)
    · rw [← uo, popK, List.map_nil, List.append_nil]; exact uc
    · rw [← up]; exact us
  | cons y v =>
    have us1 : T.1 q 4 = nI (v.length + 1) := us.1
    have us2 : T.1 (q + 3) v.length = nI y := by have := us.2.1; rw [List.length_map] at this; exact this
    have us3 : prep (T.1 (q + 3)) (v.map nI) := us.2.2
    rw [List.length_cons] at ul
    have hy : y < 2 ^ 31 := by
      rcases uw.2 with z | z
      · omega
      · rcases isop_iff.mp z.1 with z | z | z | z <;> omega
    have hrk2 := rk_le y
    rw [us1, nI_pred]
    refine ok_neg (nI_nle (by omega) (by omega)) (ok_ck _ rfl (by omega) (by decide) ?_)
    rw [qi_cl (by omega), us2, rankC hy, Option.bind_some]
    refine ok_if (fun g => ?_) (fun g => ?_)
    · have g := (nI_ltI (by omega) (by omega)).mp g
      rw [popS, if_pos g] at up
      rw [popK, if_pos g, List.map_nil, List.append_nil] at uo
      rw [← up, ← uo]
      exact ok_s ⟨uc, us, uf⟩
    · have g : ¬ rkO y < r := fun z => g ((nI_ltI (by omega) (by omega)).mpr z)
      have h40 : y ≠ 40 := fun z => g (by rw [z, rk40]; omega)
      have hop : isop y = true := by
        rcases uw.2 with z | z
        · exact absurd z h40
        · exact z.1
      have hnp : nP (y :: v) = nP v + 1 := by rw [nP, if_neg h40]
      refine ok_b (fun X => X = qv_si T q 4 (nI v.length)) rfl ?_
      rintro X hX
      have x4 : X.1 q 4 = nI v.length := by rw [hX, qs_si, qs_eq, upd_eq]
      have x3 : X.1 (q + 3) = T.1 (q + 3) := by rw [hX, qs_si, qs_ne (by omega)]
      have xc : lcd q o X := ⟨by rw [hX, qs_si, qs_eq, upd_ne (by decide)]; exact uc.1, by rw [hX, qs_si, qs_ne (by omega)]; exact uc.2⟩
      have xf : fcL q T X := ⟨fun r r1 _ _ => by rw [hX, qs_si, qs_ne r1], by rw [hX]; rfl⟩
      clear hX
      rw [x4]
      refine ok_ck _ rfl (by omega) (by decide) ?_
      rw [qi_cl (by omega), x3, us2]
      refine ok_bd (emitL xc (by omega)) ?_
      rintro Z ⟨z1, z2, z3, z4⟩
      rw [popS, if_neg g] at up
      rw [popK, if_neg g, List.map_cons, encO_op hop] at uo
      refine ih v.length _ (Nat.lt_succ_self _) ⟨v, o ++ [-(nI y)], rfl, z1, ⟨by rw [z2]; exact x4, by rw [z3, x3]; exact us3⟩, uw.1, up, ?_, fcL_trans uf (fcL_trans xf z4), ?_, by omega⟩
      · rw [← uo, List.append_assoc]; rfl
      · rw [List.length_append]; show o.length + 1 + nP v ≤ 400; omega
theorem putL {q k : Nat} {st : List Nat} {pre : List Int32} {S : qv_St} (hc : lcd q pre S) (hs : lst q st S) (hl : st.length ≤ 30) : okk (fX2_putOperator S q (nI k)) (fun Z => lcd q pre Z ∧ lst q (k :: st) Z ∧ fcL q S Z) := by
  unfold fX2_putOperator
  rw [hs.1]
  refine ok_neg (show ¬ (32 : Int32) ≤ nI st.length from nI_ge (b := 32) (by omega) (by decide)) (ok_ck _ rfl (by omega) (by decide) ?_)
  rw [qi_cl (by omega)]
  simp only [qb_e]
  have e0 : (qv_si S (q + 3) st.length (nI k)).1 q = S.1 q := by rw [qs_si, qs_ne (by omega)]
  rw [e0, hs.1, nI_1]
  refine ok_s ⟨⟨?_, ?_⟩, ⟨?_, ?_⟩, fun r r1 r2 r3 => ?_, rfl⟩
  · rw [qs_si, qs_eq, upd_ne (by decide), e0]; exact hc.1
  · rw [qs_si, qs_ne (by omega), qs_si, qs_ne (by omega)]; exact hc.2
  · rw [qs_si, qs_eq, upd_eq]; rfl
  · rw [qs_si, qs_ne (by omega), qs_si, qs_eq, List.map_cons]
    have := prep_push (x := nI k) hs.2
    rw [List.length_map] at this
    exact this
  · rw [qs_si, qs_ne r1, qs_si, qs_ne r3]
/-! what is still to come -/
def inE (K V : Nat → Nat) (nxt : Nat → List Int32 → Prop) (e : Nat) (w : Bool) (st : List Nat) (out : lwC) (t : Nat) (pre : List Int32) : Prop := ∃ t1 c, eR K V w st out t = ((t1, 0, 0), c) ∧ K t1 = e ∧ t1 < 400 ∧ nxt (t1 + 1) (pre ++ c.map encO)
def nx59 (F : List Int32) (_ : Nat) (pre : List Int32) : Prop := F = pre ++ [-59]
def nxF (K V : Nat → Nat) (F : List Int32) (t : Nat) (pre : List Int32) : Prop := t ≤ 400 ∧ ∃ n, (lawR K V n (t, 0, 0)).1.2.1 = 0 ∧ F = pre ++ flat (lawR K V n (t, 0, 0)).2
def nx12 (K V : Nat → Nat) (F : List Int32) (t : Nat) (pre : List Int32) : Prop := nxF K V F t (pre ++ [-59])
def nx11 (K V : Nat → Nat) (F : List Int32) (t : Nat) (pre : List Int32) : Prop := t ≤ 400 ∧ inE K V (nx12 K V F) 12 true [] [] t (pre ++ [-60])
def nx60 (K V : Nat → Nat) (F : List Int32) (t : Nat) (pre : List Int32) : Prop := t ≤ 400 ∧ inE K V (nx11 K V F) 11 true [] [] t pre
def lkE (K V : Nat → Nat) (F : List Int32) (e : Nat) (nxt : Nat → List Int32 → Prop) : Prop := (e = 60 ∧ nxt = nx60 K V F) ∨ (e = 11 ∧ nxt = nx11 K V F) ∨ (e = 12 ∧ nxt = nx12 K V F) ∨ (e = 59 ∧ nxt = nx59 F)
theorem sX_e {K V : Nat → Nat} (hV : ∀ i, V i < 2 ^ 31) {p : pst} {k : Nat} (hp : p.1 ≤ 400) (h : (sOnly K k (sX K V p).1).2.1 = 0) : p.2.1 = 0 ∧ eR K V true [] [] p.1 = (((sX K V p).1.1, 0, 0), (sX K V p).2) ∧ K (sX K V p).1.1 = k ∧ (sX K V p).1.1 < 400 ∧ sOnly K k (sX K V p).1 = ((sX K V p).1.1 + 1, 0, 0) := by
  obtain ⟨a1, a2, a3, a4⟩ := sOnly_ok h
  obtain ⟨b1, b2, _⟩ := sX_ok hV hp a1
  have e : sX K V p = eR K V true [] [] p.1 := if_pos b1
  refine ⟨b1, ?_, a2, a3, ?_⟩
  · rw [← e]
    exact Prod.ext (Prod.ext rfl (Prod.ext a1 b2)) rfl
  · rw [a4]
    exact Prod.ext rfl (Prod.ext a1 b2)
theorem nxF_split {K V : Nat → Nat} (hV : ∀ i, V i < 2 ^ 31) {F : List Int32} {t : Nat} {pre : List Int32} (h : nxF K V F t pre) : (K t = 10 ∧ t < 400 ∧ inE K V (nx60 K V F) 60 true [] [] (t + 1) pre) ∨ (K t ≠ 10 ∧ inE K V (nx59 F) 59 true [] [] t pre) := by
  obtain ⟨ht, n, hn, hF⟩ := h
  cases n with
  | zero => exact absurd hn (sRef_ok (by decide))
  | succ n =>
    rw [lawR] at hn hF
    by_cases g : K t = 10
    · rw [if_pos (show ((t, 0, 0) : pst).2.1 = 0 ∧ K ((t, 0, 0) : pst).1 = 10 from ⟨rfl, g⟩)] at hn hF
      by_cases g0 : n = 0
      · rw [if_pos g0] at hn; exact absurd hn (sRef_ok (by decide))
      rw [if_neg g0] at hn hF
      have hn : (lawR K V n (lw3 K V (t, 0, 0))).1.2.1 = 0 := hn
      have hwf := lw3_wf (K := K) (V := V) (p := (t, 0, 0)) ⟨ht, Nat.zero_le _⟩
      have h3 := (lawR_ok (K := K) hV n _ hwf.2.2.1 hn).1
      obtain ⟨a1, a2, a3, a4, a5⟩ := sX_e hV hwf.2.1.1 (show (sOnly K 12 (sX K V (lw2 K V (t, 0, 0))).1).2.1 = 0 from h3)
      obtain ⟨b1, b2, b3, b4, b5⟩ := sX_e hV hwf.1.1 (show (sOnly K 11 (sX K V (lw1 K V (t, 0, 0))).1).2.1 = 0 from a1)
      obtain ⟨c1, c2, c3, c4, c5⟩ := sX_e hV (sPass_wf (p := (t, 0, 0)) ⟨ht, Nat.zero_le _⟩).1 (show (sOnly K 60 (sX K V (sPass (t, 0, 0))).1).2.1 = 0 from b1)
      obtain ⟨_, d2, d3⟩ := sPass_ok c1
      have d2 : t < 400 := d2
      have e3 : lw3 K V (t, 0, 0) = _ := a5
      have e2 : lw2 K V (t, 0, 0) = _ := b5
      have e1 : lw1 K V (t, 0, 0) = _ := c5
      have p1 : (lw1 K V (t, 0, 0)).1 = (sX K V (sPass (t, 0, 0))).1.1 + 1 := by rw [e1]
      have p2 : (lw2 K V (t, 0, 0)).1 = (sX K V (lw1 K V (t, 0, 0))).1.1 + 1 := by rw [e2]
      have p0 : (sPass (t, 0, 0)).1 = t + 1 := by rw [d3]
      rw [p0] at c2
      rw [p1] at b2
      rw [p2] at a2
      rw [e3] at hn hF
      refine Or.inl ⟨g, d2, _, _, c2, c3, c4, by omega, _, _, b2, b3, b4, by omega, _, _, a2, a3, a4, by omega, n, hn, ?_⟩
      rw [hF, flat, flB]
      simp only [List.append_assoc, List.cons_append, List.nil_append]
    · rw [if_neg (fun z => g z.2)] at hn hF
      obtain ⟨a1, a2, a3, a4, a5⟩ := sX_e hV (p := (t, 0, 0)) ht hn
      refine Or.inr ⟨g, _, _, a2, a3, a4, ?_⟩
      show F = _
      rw [hF, flat, flB]
      simp only [List.append_assoc, flat, List.append_nil]
