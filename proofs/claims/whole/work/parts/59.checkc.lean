/-! the class's check, first walk: loose states (behind a fault only the fault counts) -/
def sX (K V : Nat → Nat) (p : pst) : pst × lwC := if p.2.1 = 0 then eR K V true [] [] p.1 else (p, [])
def lC (p : pst) (S : qv_St) : Prop := S.1 7 8 = nI p.2.1 ∧ (p.2.1 = 0 → S.1 7 6 = nI p.1) ∧ (p.2.1 ≠ 0 → S.1 7 7 = nI p.2.2)
theorem lC_of {p : pst} {S : qv_St} (h : pC p S) : lC p S := ⟨h.2.1, fun _ => h.1, h.2.2⟩
theorem lC_to {p : pst} {S : qv_St} (h : lC p S) (h0 : p.2.1 = 0) : pC p S := ⟨h.2.1 h0, h.1, h.2.2⟩
theorem lC_cg {p p' : pst} {S : qv_St} (h : lC p S) (hp : p.2.1 ≠ 0) (e : p'.2 = p.2) : lC p' S := by
  unfold lC
  rw [e]
  exact ⟨h.1, fun z => absurd z hp, h.2.2⟩
theorem sRef_f {c : Nat} {p : pst} (h : p.2.1 ≠ 0) : sRef c p = p := if_neg h
theorem sPass_f {p : pst} (h : p.2.1 ≠ 0) : (sPass p).2 = p.2 := by
  unfold sPass
  split
  · rfl
  · rw [sRef_f h]
theorem sOnly_f {K : Nat → Nat} {k : Nat} {p : pst} (h : p.2.1 ≠ 0) : sOnly K k p = p := if_neg h
theorem sOnly_r {K : Nat → Nat} {k t c : Nat} (h : c ≠ 0) : sOnly K k (t, c, t) = (t, c, t) := if_neg h
theorem sX_f {K V : Nat → Nat} {p : pst} (h : p.2.1 ≠ 0) : sX K V p = (p, []) := if_neg h
theorem refL {p : pst} {S : qv_St} (c : Nat) (h : lC p S) (hw : pWf p) : okk (fX4_refuse S (nI c) (S.1 7 6)) (fun Z => lC (sRef c p) Z ∧ fcP S Z) := by
  by_cases h0 : p.2.1 = 0
  · rw [h.2.1 h0]
    exact ok_mono (refC c (lC_to h h0) hw) (fun Z hz => ⟨lC_of hz.1, hz.2⟩)
  · rw [sRef_f h0]
    unfold fX4_refuse
    have h5 := hw.2
    exact ok_neg (by rw [h.1]; exact nI_ne0 (by omega) (by omega)) (ok_s ⟨h, fcP_rfl⟩)
theorem passL {p : pst} {S : qv_St} (h : lC p S) (hw : pWf p) : okk (fX4_pass S) (fun Z => lC (sPass p) Z ∧ fcP S Z) := by
  by_cases h0 : p.2.1 = 0
  · exact ok_mono (passC (lC_to h h0) hw) (fun Z hz => ⟨lC_of hz.1, hz.2⟩)
  · have h2 := sPass_f h0
    unfold fX4_pass
    refine ok_if (fun g => ?_) (fun g => ?_)
    · simp only [qb_e]
      refine ok_s ⟨lC_cg (p := p) ⟨?_, fun z => absurd z h0, fun z => ?_⟩ h0 h2, fun c hc => ?_, fun k h6 h7 h8 => ?_, rfl⟩
      · rw [qs_si, qs_eq, upd_ne (by decide)]; exact h.1
      · rw [qs_si, qs_eq, upd_ne (by decide)]; exact h.2.2 z
      · rw [qs_si, qs_ne hc]
      · rw [qs_si, qs_eq, upd_ne h6]
    · refine ok_bd (refL 2 h hw) (fun Z hz => ok_s ⟨?_, hz.2⟩)
      have hz1 := hz.1
      rw [sRef_f h0] at hz1
      exact lC_cg hz1 h0 h2
theorem onlyL {B : Nat → Nat} {L k : Nat} {p : pst} {S : qv_St} (h : lC p S) (hw : pWf p) (ht : tkC' B L S) (hk : k < 2 ^ 31) : okk (fX4_passOnly S (nI k)) (fun Z => lC (sOnly (tk B L) k p) Z ∧ fcP S Z) := by
  by_cases h0 : p.2.1 = 0
  · have := kOK_lt (tk_ok (B := B) (L := L) (i := p.1))
    exact ok_mono (onlyC (lC_to h h0) hw ht hk (by omega)) (fun Z hz => ⟨lC_of hz.1, hz.2⟩)
  · rw [sOnly_f h0]
    unfold fX4_passOnly
    have h5 := hw.2
    exact ok_neg (by rw [h.1]; exact nI_ne0 (by omega) (by omega)) (ok_s ⟨h, fcP_rfl⟩)
theorem isVarC {k : Nat} (hk : k < 2 ^ 31) : fX4_isVar (nI k) = some (if 13 ≤ k ∧ k ≤ 21 then 1 else 0) := by
  unfold fX4_isVar
  simp only [qj_e]
  by_cases g : k < 13
  · rw [if_pos (show nI k < 13 from (nI_ltI (b := 13) hk (by decide)).mpr g), if_neg (by omega)]
  · rw [if_neg (show ¬ nI k < 13 from fun z => g ((nI_ltI (b := 13) hk (by decide)).mp z))]
    by_cases g2 : 21 < k
    · rw [if_pos (show (21 : Int32) < nI k from (nI_ltI (a := 21) (by decide) hk).mpr g2), if_neg (by omega)]
    · rw [if_neg (show ¬ (21 : Int32) < nI k from fun z => g2 ((nI_ltI (a := 21) (by decide) hk).mp z)), if_pos (by omega)]
theorem nI_lit {k m : Nat} (hk : k < 2 ^ 31) (hm : m < 2 ^ 31) : nI k = nI m ↔ k = m := nI_eq hk hm
theorem isOpC {k : Nat} (hk : k < 2 ^ 31) : fX4_isOperator (nI k) = some (if isop k = true then 1 else 0) := by
  unfold fX4_isOperator
  simp only [qj_e]
  by_cases g1 : k = 43
  · subst g1; rfl
  rw [if_neg (show ¬ nI k = 43 from fun z => g1 ((nI_eq (b := 43) hk (by decide)).mp z))]
  by_cases g2 : k = 45
  · subst g2; rfl
  rw [if_neg (show ¬ nI k = 45 from fun z => g2 ((nI_eq (b := 45) hk (by decide)).mp z))]
  by_cases g3 : k = 42
  · subst g3; rfl
  rw [if_neg (show ¬ nI k = 42 from fun z => g3 ((nI_eq (b := 42) hk (by decide)).mp z))]
  by_cases g4 : k = 47
  · subst g4; rfl
  rw [if_neg (show ¬ nI k = 47 from fun z => g4 ((nI_eq (b := 47) hk (by decide)).mp z)), if_neg]
  intro z
  rcases isop_iff.mp z with z | z | z | z <;> omega
theorem sP_lt {t : Nat} (h : t < 400) : sPass (t, 0, 0) = (t + 1, 0, 0) := if_pos h
theorem sP_ge {t : Nat} (h : ¬ t < 400) : sPass (t, 0, 0) = (t, 2, t) := if_neg h
theorem sumC {B : Nat → Nat} {L e : Nat} {p : pst} {S : qv_St} (V : Nat → Nat) (h : lC p S) (hw : pWf p) (ht : tkC' B L S) (he : e < 2 ^ 31) (he1 : ¬ isop e = true) (he2 : e ≠ 41) : okk (fX4_passSum S (nI e)) (fun Z => lC (sOnly (tk B L) e (sX (tk B L) V p).1) Z ∧ fcP S Z) := by
  unfold fX4_passSum
  have hN5 := qN
  generalize qv_N = N at hN5 ⊢
  simp only [qj_e]
  by_cases h0 : p.2.1 = 0
  · have hR0 : sX (tk B L) V p = eR (tk B L) V true [] [] p.1 := if_pos h0
    rw [hR0]
    generalize hR : sOnly (tk B L) e (eR (tk B L) V true [] [] p.1).1 = R
    have hl0 : lC (p.1, 0, 0) S := ⟨by rw [h.1, h0], fun _ => h.2.1 h0, fun z => absurd rfl z⟩
    refine ok_lp5 (fun n S1 x2 x3 x4 x5 => fcP S S1 ∧ ((∃ (w : Bool) (st : List Nat) (out : lwC) (t i : Nat), n = 402 - t ∧ t ≤ 400 ∧ i ≤ t ∧ lC (t, 0, 0) S1 ∧ x2 = nI (nO st) ∧ x3 = (if w = true then 1 else 0) ∧ x4 = 0 ∧ x5 = nI i ∧ nO st ≤ 6 ∧ wst st ∧ sOnly (tk B L) e (eR (tk B L) V w st out t).1 = R) ∨ (n = 0 ∧ lC R S1 ∧ (R.2.1 ≠ 0 ∨ x4 = 1) ∧ R.2.1 ≤ 5))) ?_ N (402 - p.1) S 0 1 0 0 ⟨fcP_rfl, Or.inl ⟨true, [], [], p.1, 0, rfl, hw.1, Nat.zero_le _, hl0, rfl, rfl, rfl, rfl, Nat.zero_le _, trivial, hR⟩⟩ (by omega)
    rintro self n S1 x2 x3 x4 x5 ⟨hf, hI⟩ ih
    rcases hI with ⟨w, st, out, t, i, rfl, ht4, hit, hl, rfl, rfl, rfl, rfl, hn6, hws, hR1⟩ | ⟨rfl, hl, hd, h5⟩
    · have hk62 := kOK_lt (tk_ok (B := B) (L := L) (i := t))
      have wf0 : pWf (t, 0, 0) := ⟨ht4, Nat.zero_le _⟩
      have hl8 : S1.1 7 8 = 0 := hl.1
      have hl6 : S1.1 7 6 = nI t := hl.2.1 rfl
      refine ok_neg (show ¬ (400 : Int32) < nI i from nI_nlt (a := 400) (by omega) (by decide)) (ok_pos hl8 (ok_pos rfl ?_))
      rw [hl6, kindAtC (fcP_tk ht hf) (by omega), Option.bind_some]
      have cont : ∀ (w2 : Bool) (st2 : List Nat) (outa : lwC), nO st2 ≤ 6 → wst st2 → sOnly (tk B L) e (nxS (tk B L) V t w2 st2 outa).1 = R → okk ((fX4_pass S1).bind fun S_3 => self S_3 (nI (nO st2)) (if w2 = true then 1 else 0) 0 (nI i + 1)) (fun Z => lC R Z ∧ fcP S Z) := by
        intro w2 st2 outa q1 q3 q4
        refine ok_bd (passL hl wf0) ?_
        rintro Z ⟨z1, z2⟩
        rw [nI_1]
        by_cases g : t < 400
        · rw [sP_lt g] at z1
          rw [nx_lt g] at q4
          exact ih (402 - (t + 1)) _ _ _ _ _ (by omega) ⟨fcP_trans hf z2, Or.inl ⟨w2, st2, outa, t + 1, i + 1, rfl, by omega, by omega, z1, rfl, rfl, rfl, rfl, q1, q3, q4⟩⟩
        · rw [sP_ge g] at z1
          rw [nx_ge g, sOnly_r (c := 2) (by decide)] at q4
          exact ih 0 _ _ _ _ _ (by omega) ⟨fcP_trans hf z2, Or.inr ⟨rfl, by rw [← q4]; exact z1, Or.inl (by rw [← q4]; exact (by decide : (2 : Nat) ≠ 0)), by rw [← q4]; exact (by decide : (2 : Nat) ≤ 5)⟩⟩
      have badC : ∀ (c : Nat) (y2 y3 : Int32), c ≠ 0 → c ≤ 5 → R = (t, c, t) → okk ((fX4_refuse S1 (nI c) (nI t)).bind fun S_4 => (fX4_pass S_4).bind fun S_3 => self S_3 y2 y3 0 (nI i + 1)) (fun Z => lC R Z ∧ fcP S Z) := by
        intro c y2 y3 c0 c5 hRc
        have hr := refL c hl wf0
        rw [hl6, show sRef c (t, 0, 0) = (t, c, t) from rfl] at hr
        refine ok_bd hr ?_
        rintro Y ⟨y1, y4⟩
        refine ok_bd (passL y1 ⟨ht4, c5⟩) ?_
        rintro Z ⟨z1, z2⟩
        have z3 : lC R Z := by
          refine lC_cg z1 ?_ ?_
          · rw [sPass_f (p := (t, c, t)) c0]; exact c0
          · rw [sPass_f (p := (t, c, t)) c0, hRc]
        exact ih 0 _ _ _ _ _ (by omega) ⟨fcP_trans hf (fcP_trans y4 z2), Or.inr ⟨rfl, z3, Or.inl (by rw [hRc]; exact c0), by rw [hRc]; exact c5⟩⟩
      have lit : ∀ m, m < 62 → (nI (tk B L t) = nI m ↔ tk B L t = m) := fun m hm => nI_eq (by omega) (by omega)
      cases w with
      | true =>
        refine ok_neg (by decide) ?_
        refine ok_if (fun g => ?_) (fun g => ?_)
        · have g : tk B L t = 40 := (lit 40 (by decide)).mp g
          rw [er_40 ht4 g] at hR1
          rw [nI_1]
          by_cases g6 : nO st = 6
          · rw [if_pos g6, sOnly_r (c := 2) (by decide)] at hR1
            refine ok_neg (show ¬ nI (nO st + 1) ≤ 6 by rw [g6]; decide) ?_
            exact badC 2 _ _ (by decide) (by decide) hR1.symm
          · rw [if_neg g6] at hR1
            have e40 : nO (40 :: st) = nO st + 1 := by rw [nO, if_pos rfl]
            refine ok_pos (show nI (nO st + 1) ≤ 6 from nI_le (b := 6) (by omega) (by decide)) ?_
            rw [← e40]
            exact cont true (40 :: st) out (by omega) ⟨hws, Or.inl rfl⟩ hR1
        · have g : tk B L t ≠ 40 := fun z => g ((lit 40 (by decide)).mpr z)
          refine ok_neg (by decide) ?_
          rw [isVarC (by omega), Option.bind_some]
          have wrongU : tk B L t ≠ 23 → ¬ (13 ≤ tk B L t ∧ tk B L t ≤ 21) → R = (t, 1, t) := by
            intro u1 u2
            rw [er_no ht4 g u1 u2, sOnly_r (c := 1) (by decide)] at hR1
            exact hR1.symm
          refine ok_if (fun g2 => ?_) (fun g2 => ?_)
          · have g2 : tk B L t = 23 := (lit 23 (by decide)).mp g2
            rw [er_23 ht4 g2] at hR1
            exact cont false st _ hn6 hws hR1
          · have g2 : tk B L t ≠ 23 := fun z => g2 ((lit 23 (by decide)).mpr z)
            by_cases g3 : 13 ≤ tk B L t ∧ tk B L t ≤ 21
            · rw [if_pos g3]
              rw [er_vr ht4 g3] at hR1
              refine ok_neg (by decide) ?_
              exact cont false st _ hn6 hws hR1
            · rw [if_neg g3]
              refine ok_pos rfl (ok_neg (by decide) (ok_neg (by decide) (ok_neg (by decide) ?_)))
              exact badC 1 _ _ (by decide) (by decide) (wrongU g2 g3)
      | false =>
        refine ok_pos rfl (ok_pos rfl (ok_pos rfl ?_))
        rw [isOpC (by omega), Option.bind_some]
        by_cases g : isop (tk B L t) = true
        · rw [if_pos g]
          refine ok_neg (by decide) ?_
          rw [er_op ht4 g] at hR1
          have hrk := rk_op g
          have hpo := pop_nO hrk.1 st
          have e1 : nO (tk B L t :: popS (rkO (tk B L t)) st) = nO st := by rw [nO, if_neg hrk.2.2, hpo]; rfl
          rw [← e1]
          exact cont true _ _ (by omega) (push_wst g hws) hR1
        · rw [if_neg g]
          refine ok_pos rfl (ok_pos rfl ?_)
          by_cases g0 : nO st = 0
          · rw [er_end ht4 g g0] at hR1
            rw [g0]
            refine ok_pos (by decide) (ok_pos rfl (ok_pos rfl ?_))
            refine ok_if (fun g2 => ?_) (fun g2 => ?_)
            · have g2 : tk B L t = e := (nI_eq (by omega) he).mp g2
              have hR2 : sPass (t, 0, 0) = R := by
                rw [← hR1]
                show sPass (t, 0, 0) = sOnly (tk B L) e (t, 0, 0)
                unfold sOnly
                rw [if_pos rfl, if_pos g2]
              refine ok_bd (passL hl wf0) ?_
              rintro Z ⟨z1, z2⟩
              rw [hR2] at z1
              have wfR := sPass_wf wf0
              rw [hR2] at wfR
              exact ih 0 _ _ _ _ _ (by omega) ⟨fcP_trans hf z2, Or.inr ⟨rfl, z1, Or.inr rfl, wfR.2⟩⟩
            · have g2 : tk B L t ≠ e := fun z => g2 (by rw [z])
              refine badC 1 _ _ (by decide) (by decide) ?_
              rw [← hR1]
              show sOnly (tk B L) e (t, 0, 0) = _
              unfold sOnly
              rw [if_pos rfl, if_neg g2]
              rfl
          · refine ok_neg (show ¬ nI (nO st) ≤ 0 from nI_nle (by omega) (by omega)) ?_
            refine ok_if (fun g2 => ?_) (fun g2 => ?_)
            · have g2 : tk B L t = 41 := (lit 41 (by decide)).mp g2
              rw [er_41 ht4 g2 (by omega)] at hR1
              obtain ⟨u, u1, u3, u5, u6⟩ := pop_40 hws (by omega)
              rw [u1, List.tail_cons] at hR1
              rw [show nI (nO st) + (-1) = nI (nO u) from by rw [← u5]; exact pk_m1 _]
              exact cont false u _ (by omega) u3 hR1
            · have g2 : tk B L t ≠ 41 := fun z => g2 ((lit 41 (by decide)).mpr z)
              rw [er_bad ht4 g g2 g0, sOnly_r (c := 1) (by decide)] at hR1
              refine ok_pos rfl (ok_neg (show ¬ nI (nO st) = 0 from nI_ne0 (by omega) (by omega)) ?_)
              exact badC 1 _ _ (by decide) (by decide) hR1.symm
    · refine ok_if (fun _ => ok_s ⟨hl, hf⟩) (fun _ => ok_if (fun g => ok_if (fun g4 => ?_) (fun _ => ok_s ⟨hl, hf⟩)) (fun _ => ok_s ⟨hl, hf⟩))
      exfalso
      rcases hd with hd | hd
      · rw [hl.1] at g
        exact nI_ne0 (by omega) (by omega) g
      · rw [hd] at g4
        exact absurd g4 (by decide)
  · rw [sX_f h0, sOnly_f h0]
    have h5 := hw.2
    refine ok_lp5 (fun n S1 x2 x3 x4 x5 => S1 = S) ?_ N 0 S 0 1 0 0 rfl (by omega)
    rintro self n S1 x2 x3 x4 x5 rfl ih
    refine ok_if (fun _ => ok_s ⟨h, fcP_rfl⟩) (fun _ => ok_neg ?_ (ok_s ⟨h, fcP_rfl⟩))
    rw [h.1]
    exact nI_ne0 (by omega) (by omega)
