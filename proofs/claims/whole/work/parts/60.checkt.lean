/-! laws, TELLS and a text: the spec, and the class's first walk -/
theorem eBody_wf {K V : Nat → Nat} {F : Bool → List Nat → lwC → pst × lwC} {w : Bool} {st : List Nat} {out : lwC} {t : Nat} (ht : t ≤ 400) (hF : ∀ w2 st2 outa, pWf (F w2 st2 outa).1) : pWf (eBody K V F w st out t).1 := by
  have a0 : pWf (t, 0, 0) := ⟨ht, Nat.zero_le _⟩
  have a1 : pWf (t, 1, t) := ⟨ht, (by decide : (1 : Nat) ≤ 5)⟩
  have a2 : pWf (t, 2, t) := ⟨ht, (by decide : (2 : Nat) ≤ 5)⟩
  unfold eBody
  by_cases h : w = true
  · rw [if_pos h]
    by_cases g1 : K t = 40
    · rw [if_pos g1]
      by_cases g2 : nO st = 6
      · rw [if_pos g2]; exact a2
      · rw [if_neg g2]; exact hF _ _ _
    rw [if_neg g1]
    by_cases g2 : K t = 23
    · rw [if_pos g2]; exact hF _ _ _
    rw [if_neg g2]
    by_cases g3 : 13 ≤ K t ∧ K t ≤ 21
    · rw [if_pos g3]; exact hF _ _ _
    · rw [if_neg g3]; exact a1
  · rw [if_neg h]
    by_cases g1 : isop (K t) = true
    · rw [if_pos g1]; exact hF _ _ _
    rw [if_neg g1]
    by_cases g2 : K t = 41 ∧ 0 < nO st
    · rw [if_pos g2]; exact hF _ _ _
    rw [if_neg g2]
    by_cases g3 : nO st = 0
    · rw [if_pos g3]; exact a0
    · rw [if_neg g3]; exact a1
theorem eR_wf {K V : Nat → Nat} : ∀ (n : Nat) (w : Bool) (st : List Nat) (out : lwC) (t : Nat), t + n = 400 → pWf (eR K V w st out t).1 := by
  intro n
  induction n with
  | zero =>
    intro w st out t h
    rw [eR_s (by omega)]
    refine eBody_wf (by omega) (fun w2 st2 outa => ?_)
    rw [nx_ge (by omega)]
    exact ⟨(by omega : t ≤ 400), (by decide : (2 : Nat) ≤ 5)⟩
  | succ n ih =>
    intro w st out t h
    rw [eR_s (by omega)]
    refine eBody_wf (by omega) (fun w2 st2 outa => ?_)
    rw [nx_lt (by omega)]
    exact ih _ _ _ _ (by omega)
theorem sX_wf {K V : Nat → Nat} {p : pst} (h : pWf p) : pWf (sX K V p).1 := by
  unfold sX
  have := h.1
  by_cases g : p.2.1 = 0
  · rw [if_pos g]; exact eR_wf (400 - p.1) _ _ _ _ (by omega)
  · rw [if_neg g]; exact h
def lw1 (K V : Nat → Nat) (p : pst) : pst := sOnly K 60 (sX K V (sPass p)).1
def lw2 (K V : Nat → Nat) (p : pst) : pst := sOnly K 11 (sX K V (lw1 K V p)).1
def lw3 (K V : Nat → Nat) (p : pst) : pst := sOnly K 12 (sX K V (lw2 K V p)).1
theorem lw3_wf {K V : Nat → Nat} {p : pst} (h : pWf p) : pWf (lw1 K V p) ∧ pWf (lw2 K V p) ∧ pWf (lw3 K V p) := by
  have h1 : pWf (lw1 K V p) := sOnly_wf (sX_wf (sPass_wf h))
  have h2 : pWf (lw2 K V p) := sOnly_wf (sX_wf h1)
  exact ⟨h1, h2, sOnly_wf (sX_wf h2)⟩
def lawR (K V : Nat → Nat) : Nat → pst → pst × List lwB
  | 0, p => (sRef 2 p, [])
  | n + 1, p => if p.2.1 = 0 ∧ K p.1 = 10 then
      (if n = 0 then (sRef 2 p, []) else ((lawR K V n (lw3 K V p)).1, (some ((sX K V (sPass p)).2, (sX K V (lw1 K V p)).2), (sX K V (lw2 K V p)).2) :: (lawR K V n (lw3 K V p)).2))
    else (sOnly K 59 (sX K V p).1, [(none, (sX K V p).2)])
theorem lawR_f {K V : Nat → Nat} {p : pst} (h : p.2.1 ≠ 0) : ∀ n, (lawR K V n p).1 = p
  | 0 => sRef_f h
  | n + 1 => by rw [lawR, if_neg (fun z => h z.1), sX_f h]; exact sOnly_f h
theorem lawR_wf {K V : Nat → Nat} : ∀ (n : Nat) (p : pst), pWf p → pWf (lawR K V n p).1
  | 0, p, h => sRef_wf h (by decide)
  | n + 1, p, h => by
    rw [lawR]
    by_cases g : p.2.1 = 0 ∧ K p.1 = 10
    · rw [if_pos g]
      by_cases g0 : n = 0
      · rw [if_pos g0]; exact sRef_wf h (by decide)
      · rw [if_neg g0]; exact lawR_wf n _ (lw3_wf h).2.2
    · rw [if_neg g]; exact sOnly_wf (sX_wf h)
def its (K : Nat → Nat) : Nat → pst → pst
  | 0, p => p
  | m + 1, p => its K m (sOnly K 23 p)
theorem its_wf {K : Nat → Nat} : ∀ (m : Nat) (p : pst), pWf p → pWf (its K m p)
  | 0, _, h => h
  | m + 1, _, h => its_wf m _ (sOnly_wf h)
theorem its_f {K : Nat → Nat} {p : pst} (h : p.2.1 ≠ 0) : ∀ m, its K m p = p
  | 0 => rfl
  | m + 1 => by rw [its, sOnly_f h]; exact its_f h m
def nmd (K : Nat → Nat) (m : Nat) (p : pst) : pst := sOnly K 59 (its K m (sOnly K 22 (sPass p)))
theorem nmd_f {K : Nat → Nat} {m : Nat} {p : pst} (h : p.2.1 ≠ 0) : (nmd K m p).2 = p.2 := by
  have h2 := sPass_f h
  have h3 : (sPass p).2.1 ≠ 0 := by rw [h2]; exact h
  unfold nmd
  rw [sOnly_f h3, its_f h3, sOnly_f h3, h2]
def roomS (has most : Nat) (p : pst) : pst := if has < most then p else sRef 2 p
theorem roomS_wf {a b : Nat} {p : pst} (h : pWf p) : pWf (roomS a b p) := by
  unfold roomS
  split
  · exact h
  · exact sRef_wf h (by decide)
def tellS (K V : Nat → Nat) (c : Nat × Nat × Nat) (p : pst) : pst :=
  if K p.1 = 0 then nmd K 5 (roomS c.1 8 p) else if K p.1 = 1 then nmd K 4 (roomS c.1 8 p) else if K p.1 = 2 then nmd K 1 (roomS c.2.1 4 p) else if K p.1 = 3 then nmd K 2 (roomS c.2.2 6 p)
  else if K p.1 ≤ 6 then (lawR K V 5 (sOnly K 61 (sPass p))).1 else if K p.1 ≤ 9 then sOnly K 59 (sOnly K 23 (sPass p)) else sRef 1 p
def cntS (k : Nat) (c : Nat × Nat × Nat) : Nat × Nat × Nat := if k = 0 ∨ k = 1 then (c.1 + 1, c.2) else if k = 2 then (c.1, c.2.1 + 1, c.2.2) else if k = 3 then (c.1, c.2.1, c.2.2 + 1) else c
def tR (K V : Nat → Nat) : Nat → Nat × Nat × Nat → pst → pst
  | 0, _, p => p
  | n + 1, c, p => if p.2.1 = 0 ∧ K p.1 ≠ 24 then tR K V n (cntS (K p.1) c) (tellS K V c p) else p
theorem nmd_wf {K : Nat → Nat} {m : Nat} {p : pst} (h : pWf p) : pWf (nmd K m p) := sOnly_wf (its_wf m _ (sOnly_wf (sPass_wf h)))
theorem tellS_wf {K V : Nat → Nat} {c : Nat × Nat × Nat} {p : pst} (h : pWf p) : pWf (tellS K V c p) := by
  unfold tellS
  by_cases g0 : K p.1 = 0
  · rw [if_pos g0]; exact nmd_wf (roomS_wf h)
  rw [if_neg g0]
  by_cases g1 : K p.1 = 1
  · rw [if_pos g1]; exact nmd_wf (roomS_wf h)
  rw [if_neg g1]
  by_cases g2 : K p.1 = 2
  · rw [if_pos g2]; exact nmd_wf (roomS_wf h)
  rw [if_neg g2]
  by_cases g3 : K p.1 = 3
  · rw [if_pos g3]; exact nmd_wf (roomS_wf h)
  rw [if_neg g3]
  by_cases g6 : K p.1 ≤ 6
  · rw [if_pos g6]; exact lawR_wf 5 _ (sOnly_wf (sPass_wf h))
  rw [if_neg g6]
  by_cases g9 : K p.1 ≤ 9
  · rw [if_pos g9]; exact sOnly_wf (sOnly_wf (sPass_wf h))
  · rw [if_neg g9]; exact sRef_wf h (by decide)
/-! the class -/
theorem lawCk {B : Nat → Nat} {L : Nat} {p : pst} {S : qv_St} (V : Nat → Nat) (h : lC p S) (hw : pWf p) (ht : tkC' B L S) : okk (fX4_passLaw S) (fun Z => lC (lawR (tk B L) V 5 (sOnly (tk B L) 61 p)).1 Z ∧ fcP S Z) := by
  unfold fX4_passLaw
  have hN5 := qN
  generalize qv_N = N at hN5 ⊢
  simp only [qj_e]
  refine ok_bd (onlyL (k := 61) h hw ht (by decide)) ?_
  rintro S1 ⟨l1, f1⟩
  generalize hR : (lawR (tk B L) V 5 (sOnly (tk B L) 61 p)).1 = R
  refine ok_lp2 (fun n T x => ∃ (m j : Nat) (q : pst), n = m ∧ m + j = 5 ∧ x = nI j ∧ lC q T ∧ pWf q ∧ fcP S T ∧ (lawR (tk B L) V m q).1 = R ∧ (m = 0 → q.2.1 ≠ 0)) ?_ N 5 S1 0 ⟨5, 0, _, rfl, rfl, rfl, l1, sOnly_wf hw, f1, hR, fun z => by omega⟩ (by omega)
  rintro self n T x ⟨m, j, q, rfl, hmj, rfl, lq, wq, fq, hq, hm0⟩ ih
  have tq := fcP_tk ht fq
  have last : ∀ q2 T2, lC q2 T2 → pWf q2 → fcP S T2 → sOnly (tk B L) 59 (sX (tk B L) V q2).1 = R → okk ((fX4_passSum T2 59).bind fun S_3 => some S_3) (fun Z => lC R Z ∧ fcP S Z) := by
    intro q2 T2 a1 a3 a4 a5
    refine ok_bd (sumC (e := 59) V a1 a3 (fcP_tk ht a4) (by decide) (by decide) (by decide)) ?_
    rintro Z ⟨z1, z3⟩
    rw [a5] at z1
    exact ok_s ⟨z1, fcP_trans a4 z3⟩
  have h5 := wq.2
  have h4 := wq.1
  cases n with
  | zero =>
    have hf := hm0 rfl
    refine ok_pos (show (4 : Int32) < nI j by rw [show j = 5 by omega]; decide) ?_
    refine last q T lq wq fq ?_
    rw [sX_f hf, sOnly_f hf, ← hq, lawR_f hf]
  | succ m =>
    refine ok_neg (show ¬ (4 : Int32) < nI j from nI_nlt (a := 4) (by omega) (by decide)) ?_
    by_cases h0 : q.2.1 = 0
    · refine ok_pos (by rw [lq.1, h0]; rfl) ?_
      rw [lq.2.1 h0, kindAtC tq (by omega), Option.bind_some]
      have hk62 := kOK_lt (tk_ok (B := B) (L := L) (i := q.1))
      have sums : ∀ (q2 : pst) (T2 : qv_St), lC q2 T2 → pWf q2 → fcP S T2 → (lawR (tk B L) V m (sOnly (tk B L) 12 (sX (tk B L) V (sOnly (tk B L) 11 (sX (tk B L) V (sOnly (tk B L) 60 (sX (tk B L) V (sOnly (tk B L) 10 q2)).1)).1)).1)).1 = R → (m = 0 → q2.2.1 ≠ 0) → okk ((fX4_passOnly T2 10).bind fun S_6 => (fX4_passSum S_6 60).bind fun S_7 => (fX4_passSum S_7 11).bind fun S_8 => (fX4_passSum S_8 12).bind fun S_9 => self S_9 (nI j + 1)) (fun Z => lC R Z ∧ fcP S Z) := by
        intro q2 T2 a1 a3 a4 a5 a6
        refine ok_bd (onlyL (k := 10) a1 a3 (fcP_tk ht a4) (by decide)) ?_
        rintro Z1 ⟨z1, y1⟩
        have w1 := sOnly_wf (K := tk B L) (k := 10) a3
        have v1 := fcP_trans a4 y1
        refine ok_bd (sumC (e := 60) V z1 w1 (fcP_tk ht v1) (by decide) (by decide) (by decide)) ?_
        rintro Z2 ⟨z2, y2⟩
        have w2 := sOnly_wf (K := tk B L) (k := 60) (sX_wf (K := tk B L) (V := V) w1)
        have v2 := fcP_trans v1 y2
        refine ok_bd (sumC (e := 11) V z2 w2 (fcP_tk ht v2) (by decide) (by decide) (by decide)) ?_
        rintro Z3 ⟨z3, y3⟩
        have w3 := sOnly_wf (K := tk B L) (k := 11) (sX_wf (K := tk B L) (V := V) w2)
        have v3 := fcP_trans v2 y3
        refine ok_bd (sumC (e := 12) V z3 w3 (fcP_tk ht v3) (by decide) (by decide) (by decide)) ?_
        rintro Z4 ⟨z4, y4⟩
        have w4 := sOnly_wf (K := tk B L) (k := 12) (sX_wf (K := tk B L) (V := V) w3)
        have v4 := fcP_trans v3 y4
        rw [nI_1]
        refine ih m _ _ (Nat.lt_succ_self _) ⟨m, j + 1, _, rfl, by omega, rfl, z4, w4, v4, a5, fun z => ?_⟩
        have hq2 := a6 z
        rw [sOnly_f hq2, sX_f hq2, sOnly_f hq2, sX_f hq2, sOnly_f hq2, sX_f hq2, sOnly_f hq2]
        exact hq2
      refine ok_if (fun g => ?_) (fun g => ?_)
      · have g : tk B L q.1 = 10 := (nI_eq (b := 10) (by omega) (by decide)).mp g
        rw [lawR, if_pos ⟨h0, g⟩] at hq
        by_cases g4 : m = 0
        · subst g4
          rw [if_pos rfl] at hq
          have hq : sRef 2 q = R := hq
          refine ok_pos (show nI j = 4 by rw [show j = 4 by omega]; rfl) ?_
          have hr := refL 2 lq wq
          rw [lq.2.1 h0, hq] at hr
          refine ok_bd hr ?_
          rintro Y ⟨y1, y2⟩
          have hRf : R.2.1 ≠ 0 := by rw [← hq]; unfold sRef; rw [if_pos h0]; exact (by decide : (2 : Nat) ≠ 0)
          have hRw : pWf R := by rw [← hq]; exact sRef_wf wq (by decide)
          refine sums R Y y1 hRw (fcP_trans fq y2) ?_ (fun _ => hRf)
          rw [sOnly_f hRf, sX_f hRf, sOnly_f hRf, sX_f hRf, sOnly_f hRf, sX_f hRf, sOnly_f hRf]
          exact lawR_f hRf 0
        · rw [if_neg g4] at hq
          refine ok_neg (show ¬ nI j = 4 from fun z => by have := (nI_eq (b := 4) (by omega) (by decide)).mp z; omega) ?_
          refine sums q T lq wq fq ?_ (fun z => absurd z g4)
          have e10 : sOnly (tk B L) 10 q = sPass q := by unfold sOnly; rw [if_pos h0, if_pos g]
          rw [e10]
          exact hq
      · have g : tk B L q.1 ≠ 10 := fun z => g (by rw [z]; rfl)
        rw [lawR, if_neg (fun z => g z.2)] at hq
        exact last q T lq wq fq hq
    · refine ok_neg (by rw [lq.1]; exact nI_ne0 (by omega) (by omega)) ?_
      refine last q T lq wq fq ?_
      rw [sX_f h0, sOnly_f h0, ← hq, lawR_f h0]
theorem namedC {B : Nat → Nat} {L m : Nat} {p : pst} {S : qv_St} (h : lC p S) (hw : pWf p) (ht : tkC' B L S) (hm : m ≤ 5) : okk (fX4_passNamed S (nI m)) (fun Z => lC (nmd (tk B L) m p) Z ∧ fcP S Z) := by
  unfold fX4_passNamed nmd
  have hN5 := qN
  generalize qv_N = N at hN5 ⊢
  simp only [qj_e]
  refine ok_bd (passL h hw) ?_
  rintro S1 ⟨l1, f1⟩
  refine ok_bd (onlyL (k := 22) l1 (sPass_wf hw) (fcP_tk ht f1) (by decide)) ?_
  rintro S2 ⟨l2, f2⟩
  have f3 := fcP_trans f1 f2
  generalize hR : its (tk B L) m (sOnly (tk B L) 22 (sPass p)) = R
  refine ok_lp2 (fun n T x => ∃ (a j : Nat) (q : pst), n = a ∧ a + j = m ∧ x = nI j ∧ lC q T ∧ pWf q ∧ fcP S T ∧ its (tk B L) a q = R) ?_ N m S2 0 ⟨m, 0, _, rfl, rfl, rfl, l2, sOnly_wf (sPass_wf hw), f3, hR⟩ (by omega)
  rintro self n T x ⟨a, j, q, rfl, haj, rfl, lq, wq, fq, hq⟩ ih
  cases n with
  | zero =>
    refine ok_pos (nI_le (by omega) (by omega)) ?_
    have hq : q = R := hq
    rw [hq] at lq wq
    refine ok_bd (onlyL (k := 59) lq wq (fcP_tk ht fq) (by decide)) ?_
    rintro Z ⟨z1, z2⟩
    exact ok_s ⟨z1, fcP_trans fq z2⟩
  | succ a =>
    refine ok_neg (nI_ge (by omega) (by omega)) ?_
    refine ok_bd (onlyL (k := 23) lq wq (fcP_tk ht fq) (by decide)) ?_
    rintro Z ⟨z1, z2⟩
    rw [nI_1]
    exact ih a _ _ (Nat.lt_succ_self _) ⟨a, j + 1, _, rfl, by omega, rfl, z1, sOnly_wf wq, fcP_trans fq z2, hq⟩
def cC (c : Nat × Nat × Nat) (S : qv_St) : Prop := S.1 7 3 = nI c.1 ∧ S.1 7 4 = nI c.2.1 ∧ S.1 7 5 = nI c.2.2
def fcT (S Z : qv_St) : Prop := (∀ c, c ≠ 7 → Z.1 c = S.1 c) ∧ (∀ k, k < 3 ∨ 8 < k → Z.1 7 k = S.1 7 k) ∧ Z.2 = S.2
theorem fcT_rfl {S : qv_St} : fcT S S := ⟨fun _ _ => rfl, fun _ _ => rfl, rfl⟩
theorem fcT_trans {S T U : qv_St} (h : fcT S T) (g : fcT T U) : fcT S U := ⟨fun c hc => (g.1 c hc).trans (h.1 c hc), fun k a => (g.2.1 k a).trans (h.2.1 k a), g.2.2.trans h.2.2⟩
theorem fcT_P {S T : qv_St} (h : fcP S T) : fcT S T := ⟨h.1, fun k a => h.2.1 k (by omega) (by omega) (by omega), h.2.2⟩
theorem fcT_tk {B : Nat → Nat} {L : Nat} {S Z : qv_St} (h : tkC' B L S) (g : fcT S Z) : tkC' B L Z := tkC_fr h (g.1 3 (by decide)) (g.1 4 (by decide)) (g.1 5 (by decide)) (by rw [g.2.2])
theorem cC_P {c : Nat × Nat × Nat} {S T : qv_St} (h : cC c S) (g : fcP S T) : cC c T := ⟨by rw [g.2.1 3 (by decide) (by decide) (by decide)]; exact h.1, by rw [g.2.1 4 (by decide) (by decide) (by decide)]; exact h.2.1, by rw [g.2.1 5 (by decide) (by decide) (by decide)]; exact h.2.2⟩
theorem moreC {p : pst} {S : qv_St} {a b : Nat} (h : lC p S) (hw : pWf p) (h0 : p.2.1 = 0) (ha : a ≤ b) (hb : b ≤ 8) : okk (fX4_oneMore S (nI a) (nI b)) (fun z => z.2 = nI (a + 1) ∧ lC (roomS a b p) z.1 ∧ fcP S z.1) := by
  unfold fX4_oneMore roomS
  simp only [qj_e]
  rw [nI_1]
  by_cases g : a < b
  · rw [if_pos g]
    exact ok_pos (nI_lt g (by omega)) (ok_s ⟨rfl, h, fcP_rfl⟩)
  · rw [if_neg g]
    refine ok_neg (nI_nlt (by omega) (by omega)) (ok_bd (refL 2 h hw) ?_)
    rintro Z ⟨z1, z2⟩
    exact ok_s ⟨rfl, z1, z2⟩
theorem slot_lC {p : pst} {S : qv_St} {k : Nat} {x : Int32} (h : lC p S) (hk : k < 6) : lC p (qv_si S 7 k x) := by
  have e : ∀ j, 6 ≤ j → (qv_si S 7 k x).1 7 j = S.1 7 j := fun j hj => by rw [qs_si, qs_eq, upd_ne (by omega)]
  exact ⟨by rw [e 8 (by decide)]; exact h.1, fun z => by rw [e 6 (by decide)]; exact h.2.1 z, fun z => by rw [e 7 (by decide)]; exact h.2.2 z⟩
theorem sw9 {ρ : Type} (j : Nat) (hj : j ≤ 9) (os : List (Option ρ)) (d : Option ρ) : qv_sw (nI j) 0 9 os d = (os[j]?).getD none := by
  unfold qv_sw
  rw [nI_toInt (by omega), if_neg (by omega)]
  congr 2
theorem sw9d {ρ : Type} (j : Nat) (hj : 9 < j) (h : j < 2 ^ 31) (os : List (Option ρ)) (d : Option ρ) : qv_sw (nI j) 0 9 os d = d := by
  unfold qv_sw
  rw [nI_toInt h, if_pos (by omega)]
theorem tellC {B : Nat → Nat} {L : Nat} {p : pst} {S : qv_St} {c : Nat × Nat × Nat} (V : Nat → Nat) (h : lC p S) (hw : pWf p) (h0 : p.2.1 = 0) (ht : tkC' B L S) (hc : cC c S) (hc1 : c.1 ≤ 8) (hc2 : c.2.1 ≤ 4) (hc3 : c.2.2 ≤ 6) : okk (fX4_passTell S) (fun Z => lC (tellS (tk B L) V c p) Z ∧ cC (cntS (tk B L p.1) c) Z ∧ fcT S Z) := by
  have hk62 := kOK_lt (tk_ok (B := B) (L := L) (i := p.1))
  have h4 := hw.1
  unfold fX4_passTell
  rw [h.2.1 h0, kindAtC ht (by omega), Option.bind_some]
  have hsi : ∀ (T : qv_St) (k : Nat) (x : Int32), 3 ≤ k → k ≤ 5 → fcT T (qv_si T 7 k x) := fun T k x k1 k2 => ⟨fun q hq => by rw [qs_si, qs_ne hq], fun j hj => by rw [qs_si, qs_eq, upd_ne (by omega)], rfl⟩
  have nam : ∀ (T : qv_St) (k m a b : Nat) (c' : Nat × Nat × Nat) (x : Int32), lC (roomS a b p) T → fcP S T → 3 ≤ k → k ≤ 5 → m ≤ 5 → cC c' (qv_si T 7 k x) → cntS (tk B L p.1) c = c' → tellS (tk B L) V c p = nmd (tk B L) m (roomS a b p) → okk ((fX4_passNamed (qv_si T 7 k x) (nI m)).bind fun S_4 => some S_4) (fun Z => lC (tellS (tk B L) V c p) Z ∧ cC (cntS (tk B L p.1) c) Z ∧ fcT S Z) := by
    intro T k m a b c' x lT fT k1 k2 hm hc' e1 e2
    have f2 := fcT_trans (fcT_P fT) (hsi T k x k1 k2)
    refine ok_bd (namedC (m := m) (slot_lC lT (by omega)) (roomS_wf hw) (fcT_tk ht f2) hm) ?_
    rintro Z ⟨z1, z2⟩
    rw [e1, e2]
    exact ok_s ⟨z1, cC_P hc' z2, fcT_trans f2 (fcT_P z2)⟩
  have law : 4 ≤ tk B L p.1 → tk B L p.1 ≤ 6 → okk ((fX4_pass S).bind fun S_14 => (fX4_passLaw S_14).bind fun S_15 => some S_15) (fun Z => lC (tellS (tk B L) V c p) Z ∧ cC (cntS (tk B L p.1) c) Z ∧ fcT S Z) := by
    intro k1 k2
    refine ok_bd (passL h hw) ?_
    rintro S1 ⟨l1, f1⟩
    refine ok_bd (lawCk V l1 (sPass_wf hw) (fcP_tk ht f1)) ?_
    rintro Z ⟨z1, z2⟩
    have e1 : cntS (tk B L p.1) c = c := by unfold cntS; rw [if_neg (by omega), if_neg (by omega), if_neg (by omega)]
    have e2 : tellS (tk B L) V c p = (lawR (tk B L) V 5 (sOnly (tk B L) 61 (sPass p))).1 := by unfold tellS; rw [if_neg (by omega), if_neg (by omega), if_neg (by omega), if_neg (by omega), if_pos k2]
    rw [e1, e2]
    have f2 := fcP_trans f1 z2
    exact ok_s ⟨z1, cC_P hc f2, fcT_P f2⟩
  have one : 7 ≤ tk B L p.1 → tk B L p.1 ≤ 9 → okk ((fX4_pass S).bind fun S_20 => (fX4_passOnly S_20 23).bind fun S_21 => (fX4_passOnly S_21 59).bind fun S_22 => some S_22) (fun Z => lC (tellS (tk B L) V c p) Z ∧ cC (cntS (tk B L p.1) c) Z ∧ fcT S Z) := by
    intro k1 k2
    refine ok_bd (passL h hw) ?_
    rintro S1 ⟨l1, f1⟩
    refine ok_bd (onlyL (k := 23) l1 (sPass_wf hw) (fcP_tk ht f1) (by decide)) ?_
    rintro S2 ⟨l2, f2⟩
    have f3 := fcP_trans f1 f2
    refine ok_bd (onlyL (k := 59) l2 (sOnly_wf (sPass_wf hw)) (fcP_tk ht f3) (by decide)) ?_
    rintro Z ⟨z1, z2⟩
    have e1 : cntS (tk B L p.1) c = c := by unfold cntS; rw [if_neg (by omega), if_neg (by omega), if_neg (by omega)]
    have e2 : tellS (tk B L) V c p = sOnly (tk B L) 59 (sOnly (tk B L) 23 (sPass p)) := by unfold tellS; rw [if_neg (by omega), if_neg (by omega), if_neg (by omega), if_neg (by omega), if_neg (by omega), if_pos k2]
    rw [e1, e2]
    have f4 := fcP_trans f3 z2
    exact ok_s ⟨z1, cC_P hc f4, fcT_P f4⟩
  by_cases g9 : tk B L p.1 ≤ 9
  · rw [sw9 _ g9]
    rcases (by omega : tk B L p.1 = 0 ∨ tk B L p.1 = 1 ∨ tk B L p.1 = 2 ∨ tk B L p.1 = 3 ∨ tk B L p.1 = 4 ∨ tk B L p.1 = 5 ∨ tk B L p.1 = 6 ∨ tk B L p.1 = 7 ∨ tk B L p.1 = 8 ∨ tk B L p.1 = 9) with e | e | e | e | e | e | e | e | e | e
    all_goals rw [e]; simp only [List.getElem?_cons_zero, List.getElem?_cons_succ, Option.getD_some]; rw [← e]
    · rw [hc.1]
      refine ok_cm (moreC (b := 8) h hw h0 hc1 (by decide)) ?_
      rintro T r ⟨r1, r2, r3⟩
      have r1 : r = nI (c.1 + 1) := r1
      subst r1
      have hcT := cC_P hc r3
      refine nam T 3 5 c.1 8 (c.1 + 1, c.2) _ r2 r3 (by decide) (by decide) (by decide) ⟨?_, ?_, ?_⟩ ?_ ?_
      · rw [qs_si, qs_eq, upd_eq]
      · rw [qs_si, qs_eq, upd_ne (by decide)]; exact hcT.2.1
      · rw [qs_si, qs_eq, upd_ne (by decide)]; exact hcT.2.2
      · unfold cntS; rw [if_pos (by omega)]
      · unfold tellS; rw [if_pos e]
    · rw [hc.1]
      refine ok_cm (moreC (b := 8) h hw h0 hc1 (by decide)) ?_
      rintro T r ⟨r1, r2, r3⟩
      have r1 : r = nI (c.1 + 1) := r1
      subst r1
      have hcT := cC_P hc r3
      refine nam T 3 4 c.1 8 (c.1 + 1, c.2) _ r2 r3 (by decide) (by decide) (by decide) ⟨?_, ?_, ?_⟩ ?_ ?_
      · rw [qs_si, qs_eq, upd_eq]
      · rw [qs_si, qs_eq, upd_ne (by decide)]; exact hcT.2.1
      · rw [qs_si, qs_eq, upd_ne (by decide)]; exact hcT.2.2
      · unfold cntS; rw [if_pos (by omega)]
      · unfold tellS; rw [if_neg (by omega), if_pos e]
    · rw [hc.2.1]
      refine ok_cm (moreC (b := 4) h hw h0 hc2 (by decide)) ?_
      rintro T r ⟨r1, r2, r3⟩
      have r1 : r = nI (c.2.1 + 1) := r1
      subst r1
      have hcT := cC_P hc r3
      refine nam T 4 1 c.2.1 4 (c.1, c.2.1 + 1, c.2.2) _ r2 r3 (by decide) (by decide) (by decide) ⟨?_, ?_, ?_⟩ ?_ ?_
      · rw [qs_si, qs_eq, upd_ne (by decide)]; exact hcT.1
      · rw [qs_si, qs_eq, upd_eq]
      · rw [qs_si, qs_eq, upd_ne (by decide)]; exact hcT.2.2
      · unfold cntS; rw [if_neg (by omega), if_pos e]
      · unfold tellS; rw [if_neg (by omega), if_neg (by omega), if_pos e]
    · rw [hc.2.2]
      refine ok_cm (moreC (b := 6) h hw h0 hc3 (by decide)) ?_
      rintro T r ⟨r1, r2, r3⟩
      have r1 : r = nI (c.2.2 + 1) := r1
      subst r1
      have hcT := cC_P hc r3
      refine nam T 5 2 c.2.2 6 (c.1, c.2.1, c.2.2 + 1) _ r2 r3 (by decide) (by decide) (by decide) ⟨?_, ?_, ?_⟩ ?_ ?_
      · rw [qs_si, qs_eq, upd_ne (by decide)]; exact hcT.1
      · rw [qs_si, qs_eq, upd_ne (by decide)]; exact hcT.2.1
      · rw [qs_si, qs_eq, upd_eq]
      · unfold cntS; rw [if_neg (by omega), if_neg (by omega), if_pos e]
      · unfold tellS; rw [if_neg (by omega), if_neg (by omega), if_neg (by omega), if_pos e]
    · exact law (by omega) (by omega)
    · exact law (by omega) (by omega)
    · exact law (by omega) (by omega)
    · exact one (by omega) (by omega)
    · exact one (by omega) (by omega)
    · exact one (by omega) (by omega)
  · rw [sw9d _ (by omega) (by omega)]
    have hr := refL 1 h hw
    rw [h.2.1 h0] at hr
    refine ok_bd hr ?_
    rintro Z ⟨z1, z2⟩
    have e1 : cntS (tk B L p.1) c = c := by unfold cntS; rw [if_neg (by omega), if_neg (by omega), if_neg (by omega)]
    have e2 : tellS (tk B L) V c p = sRef 1 p := by unfold tellS; rw [if_neg (by omega), if_neg (by omega), if_neg (by omega), if_neg (by omega), if_neg (by omega), if_neg (by omega)]
    rw [e1, e2]
    exact ok_s ⟨z1, cC_P hc z2, fcT_P z2⟩
