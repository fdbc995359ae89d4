/-! the class learns a law: the loop -/
theorem fcL_tk {B : Nat → Nat} {L q : Nat} {S Z : qv_St} (hq : 9 ≤ q) (h : tkC' B L S) (g : fcL q S Z) : tkC' B L Z := tkC_fr h (g.1 3 (by omega) (by omega) (by omega)) (g.1 4 (by omega) (by omega) (by omega)) (g.1 5 (by omega) (by omega) (by omega)) (by rw [g.2])
theorem encO_v {k : Nat} (h1 : 13 ≤ k) (h2 : k ≤ 21) : encO (1, nI (k - 13)) = -(nI k) := by
  show -(nI (k - 13) + 13) = -(nI k)
  rw [show (13 : Int32) = nI 13 from rfl, nI_add, show k - 13 + 13 = k by omega]
theorem learnL {B : Nat → Nat} {L q h t' : Nat} {S : qv_St} (hL : L ≤ 2000) (hp : ∀ i, i < nT B L → ps B L i < L) (ht : tkC' B L S) (hq : 9 ≤ q) (h4 : h + 2 ≤ 400) (hl : (lawR (tk B L) (tvn B L) 5 (h + 2, 0, 0)).1 = (t', 0, 0)) :
    okk (fX2_learn S q (nI (h + 2))) (fun Z => cLaw Z.1 q (lawR (tk B L) (tvn B L) 5 (h + 2, 0, 0)).2 ∧ fcL q S Z) := by
  have hV : ∀ i, tvn B L i < 2 ^ 31 := fun i => by have := tvn_lt hL hp i; omega
  have hl0 : (lawR (tk B L) (tvn B L) 5 (h + 2, 0, 0)).1.2.1 = 0 := by rw [hl]
  obtain ⟨_, _, _, w4, _, _, _, w8⟩ := lawR_ok (K := tk B L) hV 5 (h + 2, 0, 0) h4 hl0
  have w8 : (flat (lawR (tk B L) (tvn B L) 5 (h + 2, 0, 0)).2).length + (h + 2) ≤ _ := w8
  generalize hF : flat (lawR (tk B L) (tvn B L) 5 (h + 2, 0, 0)).2 = F at w8
  refine ok_mono (P := fun Z => lcd q F Z ∧ fcL q S Z) ?_ (fun Z hz => ⟨lcd_len hz.1 (by omega) _ hF.symm, hz.2⟩)
  have h401 := ht.2.2.2.1
  unfold fX2_learn
  have hN5 := qN
  generalize qv_N = N at hN5 ⊢
  refine ok_b (fun X => X = qv_si S q 3 0) rfl ?_
  rintro X hX
  refine ok_b (fun Y => lcd q [] Y ∧ lst q [] Y ∧ fcL q S Y) ⟨⟨?_, trivial⟩, ⟨?_, trivial⟩, fun r r1 _ _ => ?_, ?_⟩ ?_
  · rw [qs_si, qs_eq, upd_ne (by decide), hX, qs_si, qs_eq, upd_eq]; rfl
  · rw [qs_si, qs_eq, upd_eq]; rfl
  · rw [qs_si, qs_ne r1, hX, qs_si, qs_ne r1]
  · rw [hX]; rfl
  rintro Y ⟨yc, ys, yf⟩
  clear hX
  refine ok_lp3 (fun n T x3 x4 => fcL q S T ∧ ((∃ t k pre, n = 402 - t ∧ x4 = nI t ∧ t ≤ 400 ∧ x3 = nI k ∧ k < 59 ∧ nxF (tk B L) (tvn B L) F t pre ∧ lcd q pre T ∧ lst q [] T ∧ pre.length + 2 ≤ t) ∨ (∃ e nxt w st out t k pre, n = 402 - t ∧ x4 = nI t ∧ t ≤ 400 ∧ x3 = nI k ∧ k < 62 ∧ k ≠ 59 ∧ lkE (tk B L) (tvn B L) F e nxt ∧ inE (tk B L) (tvn B L) nxt e w st out t pre ∧ lcd q (pre ++ out.map encO) T ∧ lst q st T ∧ wst st ∧ nO st ≤ 6 ∧ pre.length + out.length + nP st + 2 ≤ t) ∨ (x3 = 59 ∧ lcd q F T))) ?_ N (402 - (h + 2)) Y 10 (nI (h + 2)) ⟨yf, Or.inl ⟨h + 2, 10, [], rfl, rfl, h4, rfl, by decide, ⟨h4, 5, hl0, by rw [hF]; rfl⟩, yc, ys, by show 0 + 2 ≤ h + 2; omega⟩⟩ (by omega)
  rintro self n T x3 x4 ⟨hf, hI⟩ ih
  revert hI
  have htT := fcL_tk hq ht hf
  have lit : ∀ t m, m < 62 → (nI (tk B L t) = nI m ↔ tk B L t = m) := fun t m hm => by
    have := kOK_lt (tk_ok (B := B) (L := L) (i := t))
    exact nI_eq (by omega) (by omega)
  -- a token in an E
  have stepB : ∀ e nxt w st out t k pre, n = 402 - t → x4 = nI t → t ≤ 400 → x3 = nI k → k < 62 → k ≠ 59 → lkE (tk B L) (tvn B L) F e nxt → inE (tk B L) (tvn B L) nxt e w st out t pre → lcd q (pre ++ out.map encO) T → lst q st T → wst st → nO st ≤ 6 → pre.length + out.length + nP st + 2 ≤ t →
      okk (if (T.1 3 4) ≤ x4 then some T else if x3 = 59 then some T else (fX9_kindAt T x4).bind fun r_1 => qv_j (fun (S_4 : qv_St) => self S_4 r_1 (x4 + 1)) fun K_1 =>
        if r_1 = 23 then (fX9_intAt T x4).bind fun r_4 => (fX2_emit T q r_4).bind fun S_12 => K_1 S_12
        else qv_j (if r_1 = 40 then (fX2_putOperator T q r_1).bind fun S_10 => K_1 S_10
            else if r_1 = 41 then (fX2_emitOperators T q 1).bind fun S_8 => qv_b (qv_si S_8 q 4 (qv_mx 0 ((S_8.1 q 4) - 1))) fun S_9 => K_1 S_9
              else (fX2_rankOf r_1).bind fun r_2 => if r_2 ≤ 0 then (if r_1 = 10 then K_1 T else (fX2_endSum T q r_1).bind fun S_5 => K_1 S_5)
                else (fX2_rankOf r_1).bind fun r_3 => (fX2_emitOperators T q r_3).bind fun S_6 => (fX2_putOperator S_6 q r_1).bind fun S_7 => K_1 S_7) fun K_2 =>
          if r_1 < 13 then K_2 else if 21 < r_1 then K_2 else (fX2_emit T q (-r_1)).bind fun S_11 => K_1 S_11) (fun Z => lcd q F Z ∧ fcL q S Z) := by
    intro e nxt w st out t k pre hn hx4 ht4 hx3 hk62 hk59 hlk hin hc hs hw h6 hb
    subst hx4
    subst hx3
    have hk := kOK_lt (tk_ok (B := B) (L := L) (i := t))
    have hnp := st_bd st hw
    have htp := tpo_le st
    have h20 := st60 hw h6
    obtain ⟨t1, c, he, h1, h1b, hnx⟩ := hin
    have hne : tk B L t ≠ 24 := by
      intro z
      by_cases hw2 : w = true
      · subst hw2
        rw [er_no ht4 (by omega) (by omega) (by omega)] at he
        exact absurd (congrArg (fun y : pst × lwC => y.1.2.1) he) (by decide : (1 : Nat) ≠ 0)
      · have hw2 : w = false := by cases w; rfl; exact absurd rfl hw2
        subst hw2
        have gop : ¬ isop (tk B L t) = true := by rw [z]; decide
        by_cases g0 : nO st = 0
        · rw [er_end ht4 gop g0] at he
          have e1 : t = t1 := congrArg (fun y : pst × lwC => y.1.1) he
          rw [← e1, z] at h1
          rcases hlk with ⟨a, _⟩ | ⟨a, _⟩ | ⟨a, _⟩ | ⟨a, _⟩ <;> omega
        · rw [er_bad ht4 gop (by omega) g0] at he
          exact absurd (congrArg (fun y : pst × lwC => y.1.2.1) he) (by decide : (1 : Nat) ≠ 0)
    have htn := (tk_in hne).1
    rw [htT.2.1]
    refine ok_neg (nI_ge htn (by omega)) (ok_neg (fun z => hk59 ((nI_eq (b := 59) (by omega) (by decide)).mp z)) ?_)
    rw [kindAtC htT (by omega), Option.bind_some, nI_1]
    refine ok_jj (fun (K1 : qv_St → Option qv_St) => K1 = fun S_4 => self S_4 (nI (tk B L t)) (nI (t + 1))) rfl ?_
    rintro K1 rfl
    -- on to the next token of the E
    have go : ∀ (w2 : Bool) (st2 : List Nat) (outa : lwC) (Z : qv_St), tk B L t ≠ 59 → fcL q T Z → nxS (tk B L) (tvn B L) t w2 st2 outa = ((t1, 0, 0), c) → lcd q (pre ++ outa.map encO) Z → lst q st2 Z → wst st2 → nO st2 ≤ 6 → pre.length + outa.length + nP st2 + 1 ≤ t → okk (self Z (nI (tk B L t)) (nI (t + 1))) (fun Z => lcd q F Z ∧ fcL q S Z) := by
      intro w2 st2 outa Z a0 a1 a2 a3 a4 a5 a6 a7
      by_cases g : t < 400
      · rw [nx_lt g] at a2
        exact ih (402 - (t + 1)) _ _ _ (by omega) ⟨fcL_trans hf a1, Or.inr (Or.inl ⟨e, nxt, w2, st2, outa, t + 1, tk B L t, pre, rfl, rfl, by omega, rfl, hk, a0, hlk, ⟨t1, c, a2, h1, h1b, hnx⟩, a3, a4, a5, a6, by omega⟩)⟩
      · rw [nx_ge g] at a2
        exact absurd (congrArg (fun y : pst × lwC => y.1.2.1) a2) (by decide : (2 : Nat) ≠ 0)
    have hcl : (pre ++ out.map encO).length = pre.length + out.length := by rw [List.length_append, List.length_map]
    cases w with
    | true =>
      by_cases g40 : tk B L t = 40
      · rw [er_40 ht4 g40] at he
        by_cases g6 : nO st = 6
        · rw [if_pos g6] at he
          exact absurd (congrArg (fun y : pst × lwC => y.1.2.1) he) (by decide : (2 : Nat) ≠ 0)
        · rw [if_neg g6] at he
          refine ok_neg (fun z => by have := (lit t 23 (by decide)).mp z; omega) ?_
          refine ok_jj (fun (K2 : Option qv_St) => okk K2 (fun Z => lcd q F Z ∧ fcL q S Z)) ?_ (fun K2 hK2 => ok_neg (fun z => by have := (nI_ltI (b := 13) (by omega) (by decide)).mp z; omega) (ok_pos (nI_lt (a := 21) (by omega) (by omega)) hK2))
          refine ok_pos ((lit t 40 (by decide)).mpr g40) ?_
          refine ok_bd (putL (k := tk B L t) hc hs (by omega)) ?_
          rintro Z ⟨z1, z2, z3⟩
          rw [g40] at z2
          have e40 : nO (40 :: st) = nO st + 1 := by rw [nO, if_pos rfl]
          have p40 : nP (40 :: st) = nP st := by rw [nP, if_pos rfl]; rfl
          exact go true (40 :: st) out Z (by omega) z3 he z1 z2 ⟨hw, Or.inl rfl⟩ (by omega) (by omega)
      · by_cases g23 : tk B L t = 23
        · rw [er_23 ht4 g23] at he
          refine ok_pos ((lit t 23 (by decide)).mpr g23) ?_
          rw [intC htT (by omega) hL hp g23, Option.bind_some]
          refine ok_bd (emitL hc (by omega)) ?_
          rintro Z ⟨z1, z2, z3, z4⟩
          refine go false st _ Z (by omega) z4 he ?_ ⟨by rw [z2]; exact hs.1, by rw [z3]; exact hs.2⟩ hw h6 ?_
          · rw [List.map_append, ← List.append_assoc]; exact z1
          · rw [List.length_append]; show pre.length + (out.length + 1) + nP st + 1 ≤ t; omega
        · by_cases gv : 13 ≤ tk B L t ∧ tk B L t ≤ 21
          · rw [er_vr ht4 gv] at he
            refine ok_neg (fun z => g23 ((lit t 23 (by decide)).mp z)) ?_
            refine ok_jj (fun (K2 : Option qv_St) => True) trivial (fun K2 _ => ok_neg (fun z => by have := (nI_ltI (b := 13) (by omega) (by decide)).mp z; omega) (ok_neg (fun z => by have := (nI_ltI (a := 21) (by decide) (by omega)).mp z; omega) ?_))
            refine ok_bd (emitL hc (by omega)) ?_
            rintro Z ⟨z1, z2, z3, z4⟩
            refine go false st _ Z (by omega) z4 he ?_ ⟨by rw [z2]; exact hs.1, by rw [z3]; exact hs.2⟩ hw h6 ?_
            · rw [List.map_append, ← List.append_assoc, List.map_cons, encO_v gv.1 gv.2]; exact z1
            · rw [List.length_append]; show pre.length + (out.length + 1) + nP st + 1 ≤ t; omega
          · rw [er_no ht4 g40 g23 gv] at he
            exact absurd (congrArg (fun y : pst × lwC => y.1.2.1) he) (by decide : (1 : Nat) ≠ 0)
    | false =>
      -- no unit, no bracket that opens
      have toK2 : ∀ {A : Option qv_St}, tk B L t ≠ 23 → ¬ (13 ≤ tk B L t ∧ tk B L t ≤ 21) → ∀ {X Y3 : Option qv_St}, okk A (fun Z => lcd q F Z ∧ fcL q S Z) → okk (if nI (tk B L t) = 23 then X else qv_j A fun K_2 => if nI (tk B L t) < 13 then K_2 else if 21 < nI (tk B L t) then K_2 else Y3) (fun Z => lcd q F Z ∧ fcL q S Z) := by
        intro A n23 nv X Y3 hA
        refine ok_neg (fun z => n23 ((lit t 23 (by decide)).mp z)) ?_
        refine ok_jj (fun (K2 : Option qv_St) => okk K2 (fun Z => lcd q F Z ∧ fcL q S Z)) hA (fun K2 hK2 => ok_if (fun _ => hK2) (fun g => ok_pos ?_ hK2))
        have : ¬ tk B L t < 13 := fun z => g (nI_lt (b := 13) z (by decide))
        exact nI_lt (a := 21) (by omega) (by omega)
      by_cases gop : isop (tk B L t) = true
      · rw [er_op ht4 gop] at he
        have hrk := rk_op gop
        have h4k := isop_iff.mp gop
        refine toK2 (by omega) (by omega) (ok_neg (fun z => by have := (lit t 40 (by decide)).mp z; omega) (ok_neg (fun z => by have := (lit t 41 (by decide)).mp z; omega) ?_))
        rw [rankC (by omega), Option.bind_some]
        refine ok_neg (nI_nle (by omega) (by omega)) ?_
        rw [Option.bind_some]
        refine ok_bd (opsL hc hs hw (by omega) hrk.1 hrk.2.1 (by omega)) ?_
        rintro Z ⟨z1, z2, z3⟩
        have hl2 : (popS (rkO (tk B L t)) st).length ≤ 20 := by
          refine st60 (pop_wst st hw) ?_
          rw [pop_nO hrk.1]; exact h6
        refine ok_bd (putL (k := tk B L t) z1 z2 (by omega)) ?_
        rintro W ⟨w1, w2, w3⟩
        have hpn := pop_nP hrk.1 st
        refine go true _ _ W (by omega) (fcL_trans z3 w3) he ?_ w2 (push_wst gop hw) ?_ ?_
        · rw [List.map_append, ← List.append_assoc]; exact w1
        · rw [nO, if_neg hrk.2.2, pop_nO hrk.1]; exact h6
        · rw [nP, if_neg hrk.2.2, List.length_append]; omega
      · by_cases g0 : nO st = 0
        · rw [er_end ht4 gop g0] at he
          have e1 : t = t1 := congrArg (fun y : pst × lwC => y.1.1) he
          have e2 : out ++ popK 1 st = c := congrArg (fun y : pst × lwC => y.2) he
          subst e1
          have hpn := pop_nP (r := 1) (by decide) st
          have hnil := pop_nil hw g0
          rw [hnil] at hpn
          have hnp0 : nP [] = 0 := rfl
          have ge : tk B L t = 60 ∨ tk B L t = 11 ∨ tk B L t = 12 ∨ tk B L t = 59 := by
            rcases hlk with ⟨a, _⟩ | ⟨a, _⟩ | ⟨a, _⟩ | ⟨a, _⟩ <;> omega
          refine toK2 (by omega) (by omega) (ok_neg (fun z => by have := (lit t 40 (by decide)).mp z; omega) (ok_neg (fun z => by have := (lit t 41 (by decide)).mp z; omega) ?_))
          have hrk0 : rkO (tk B L t) = 0 := by
            unfold rkO
            rw [if_neg (by omega), if_neg (by omega)]
          rw [rankC (by omega), Option.bind_some, hrk0]
          refine ok_pos (by decide) (ok_neg (fun z => by have := (lit t 10 (by decide)).mp z; omega) ?_)
          unfold fX2_endSum
          have hops := opsL (r := 1) hc hs hw (by omega) (by decide) (by decide) (by omega)
          rw [List.append_assoc, ← List.map_append, e2, hnil] at hops
          have hcl2 : (pre ++ c.map encO).length = pre.length + c.length := by rw [List.length_append, List.length_map]
          have hclen : c.length = out.length + nP st := by rw [← e2, List.length_append]; omega
          obtain ⟨Z, zE, z1, z2, z3⟩ := hops
          have zE : fX2_emitOperators T q 1 = some Z := zE
          rw [zE, Option.bind_some]
          simp only [qj_e]
          have hfZ := fcL_trans hf z3
          rcases ge with ge | ge | ge | ge
          · -- '<'
            have hnx2 : nx60 (tk B L) (tvn B L) F (t + 1) (pre ++ c.map encO) := by
              rcases hlk with ⟨a, b⟩ | ⟨a, _⟩ | ⟨a, _⟩ | ⟨a, _⟩
              · rw [b] at hnx; exact hnx
              · omega
              · omega
              · omega
            rw [if_neg (show ¬ nI (tk B L t) = 11 from fun z => by have := (lit t 11 (by decide)).mp z; omega), if_neg (show ¬ nI (tk B L t) = 12 from fun z => by have := (lit t 12 (by decide)).mp z; omega), if_neg (show ¬ nI (tk B L t) = 59 from fun z => by have := (lit t 59 (by decide)).mp z; omega), Option.bind_some]
            refine ih (402 - (t + 1)) _ _ _ (by omega) ⟨hfZ, Or.inr (Or.inl ⟨11, _, true, [], [], t + 1, tk B L t, pre ++ c.map encO, rfl, rfl, by omega, rfl, hk, by omega, Or.inr (Or.inl ⟨rfl, rfl⟩), hnx2.2, ?_, z2, trivial, Nat.zero_le _, ?_⟩)⟩
            · rw [List.map_nil, List.append_nil]; exact z1
            · show (pre ++ c.map encO).length + 0 + 0 + 2 ≤ t + 1; omega
          · have hnx2 : nx11 (tk B L) (tvn B L) F (t + 1) (pre ++ c.map encO) := by
              rcases hlk with ⟨a, _⟩ | ⟨a, b⟩ | ⟨a, _⟩ | ⟨a, _⟩
              · omega
              · rw [b] at hnx; exact hnx
              · omega
              · omega
            rw [if_pos (show nI (tk B L t) = 11 from (lit t 11 (by decide)).mpr ge)]
            rw [show ∀ (A : Option qv_St) (f : qv_St → Option qv_St), (A.bind fun S_3 => some S_3).bind f = A.bind f from fun A f => by cases A <;> rfl]
            refine ok_bd (emitL z1 (by omega)) ?_
            rintro W ⟨w1, w2, w3, w4⟩
            refine ih (402 - (t + 1)) _ _ _ (by omega) ⟨fcL_trans hfZ w4, Or.inr (Or.inl ⟨12, _, true, [], [], t + 1, tk B L t, pre ++ c.map encO ++ [-60], rfl, rfl, by omega, rfl, hk, by omega, Or.inr (Or.inr (Or.inl ⟨rfl, rfl⟩)), hnx2.2, ?_, ⟨by rw [w2]; exact z2.1, trivial⟩, trivial, Nat.zero_le _, ?_⟩)⟩
            · rw [List.map_nil, List.append_nil]; exact w1
            · rw [List.length_append]; show (pre ++ c.map encO).length + 1 + 0 + 0 + 2 ≤ t + 1; omega
          · have hnx2 : nx12 (tk B L) (tvn B L) F (t + 1) (pre ++ c.map encO) := by
              rcases hlk with ⟨a, _⟩ | ⟨a, _⟩ | ⟨a, b⟩ | ⟨a, _⟩
              · omega
              · omega
              · rw [b] at hnx; exact hnx
              · omega
            rw [if_neg (show ¬ nI (tk B L t) = 11 from fun z => by have := (lit t 11 (by decide)).mp z; omega), if_pos (show nI (tk B L t) = 12 from (lit t 12 (by decide)).mpr ge)]
            rw [show ∀ (A : Option qv_St) (f : qv_St → Option qv_St), (A.bind fun S_3 => some S_3).bind f = A.bind f from fun A f => by cases A <;> rfl]
            refine ok_bd (emitL z1 (by omega)) ?_
            rintro W ⟨w1, w2, w3, w4⟩
            refine ih (402 - (t + 1)) _ _ _ (by omega) ⟨fcL_trans hfZ w4, Or.inl ⟨t + 1, tk B L t, pre ++ c.map encO ++ [-59], rfl, rfl, by omega, rfl, by omega, hnx2, w1, ⟨by rw [w2]; exact z2.1, trivial⟩, ?_⟩⟩
            rw [List.length_append]; show (pre ++ c.map encO).length + 1 + 2 ≤ t + 1; omega
          · have hnx2 : nx59 F (t + 1) (pre ++ c.map encO) := by
              rcases hlk with ⟨a, _⟩ | ⟨a, _⟩ | ⟨a, _⟩ | ⟨a, b⟩
              · omega
              · omega
              · omega
              · rw [b] at hnx; exact hnx
            rw [if_neg (show ¬ nI (tk B L t) = 11 from fun z => by have := (lit t 11 (by decide)).mp z; omega), if_neg (show ¬ nI (tk B L t) = 12 from fun z => by have := (lit t 12 (by decide)).mp z; omega), if_pos (show nI (tk B L t) = 59 from (lit t 59 (by decide)).mpr ge)]
            rw [show ∀ (A : Option qv_St) (f : qv_St → Option qv_St), (A.bind fun S_3 => some S_3).bind f = A.bind f from fun A f => by cases A <;> rfl]
            refine ok_bd (emitL z1 (by omega)) ?_
            rintro W ⟨w1, w2, w3, w4⟩
            refine ih 0 _ _ _ (by omega) ⟨fcL_trans hfZ w4, Or.inr (Or.inr ⟨(lit t 59 (by decide)).mpr ge, ?_⟩)⟩
            rw [show F = _ from hnx2]
            exact w1
        · by_cases g41 : tk B L t = 41
          · rw [er_41 ht4 g41 (by omega)] at he
            obtain ⟨u, u1, u3, u5, u6⟩ := pop_40 hw (by omega)
            rw [u1, List.tail_cons] at he
            refine toK2 (by omega) (by omega) (ok_neg (fun z => by have := (lit t 40 (by decide)).mp z; omega) (ok_pos ((lit t 41 (by decide)).mpr g41) ?_))
            have hops := opsL (r := 1) hc hs hw (by omega) (by decide) (by decide) (by omega)
            rw [u1] at hops
            refine ok_bd hops ?_
            rintro Z ⟨z1, z2, z3⟩
            have z4 : Z.1 q 4 = nI (u.length + 1) := z2.1
            have hul := st60 u3 (by omega)
            rw [z4, nI_pred]
            have hmx : qv_mx 0 (nI u.length) = nI u.length := by
              unfold qv_mx
              by_cases gz : 0 < nI u.length
              · rw [if_pos gz]
              · rw [if_neg gz]
                have : ¬ 0 < u.length := fun z => gz (nI_lt (a := 0) z (by omega))
                rw [show u.length = 0 by omega]; rfl
            rw [hmx]
            refine ok_b (fun W => W = qv_si Z q 4 (nI u.length)) rfl ?_
            rintro W hW
            refine go false u _ W (by omega) (fcL_trans z3 ⟨fun r r1 _ _ => by rw [hW, qs_si, qs_ne r1], by rw [hW]; rfl⟩) he ?_ ⟨?_, ?_⟩ u3 (by omega) ?_
            · rw [List.map_append, ← List.append_assoc]
              exact ⟨by rw [hW, qs_si, qs_eq, upd_ne (by decide)]; exact z1.1, by rw [hW, qs_si, qs_ne (by omega)]; exact z1.2⟩
            · rw [hW, qs_si, qs_eq, upd_eq]
            · rw [hW, qs_si, qs_ne (by omega)]; exact z2.2.2
            · rw [List.length_append]; omega
          · rw [er_bad ht4 gop g41 g0] at he
            exact absurd (congrArg (fun y : pst × lwC => y.1.2.1) he) (by decide : (1 : Nat) ≠ 0)
  intro hI
  rcases hI with ⟨t, k, pre, rfl, rfl, t4, rfl, hk, hnF, hc, hs, hb⟩ | ⟨e, nxt, w, st, out, t, k, pre, a1, a2, a3, a4, a5, a6, a7, a8, a9, a10, a11, a12, a13⟩ | ⟨rfl, hc⟩
  · rcases nxF_split hV hnF with ⟨g, g2, g3⟩ | ⟨g, g3⟩
    · have htn := (tk_in (B := B) (L := L) (i := t) (by omega)).1
      rw [htT.2.1]
      refine ok_neg (nI_ge htn (by omega)) (ok_neg (fun z => by have := (nI_eq (b := 59) (by omega) (by decide)).mp z; omega) ?_)
      rw [kindAtC htT (by omega), Option.bind_some, nI_1]
      simp only [qj_e]
      rw [g]
      refine ok_neg (by decide) (ok_pos (by decide) (ok_neg (by decide) (ok_neg (by decide) ?_)))
      rw [rankC (by decide), Option.bind_some]
      refine ok_pos (by decide) (ok_pos rfl ?_)
      refine ih (402 - (t + 1)) _ _ _ (by omega) ⟨hf, Or.inr (Or.inl ⟨60, _, true, [], [], t + 1, 10, pre, rfl, rfl, by omega, rfl, by decide, by decide, Or.inl ⟨rfl, rfl⟩, g3, ?_, hs, trivial, Nat.zero_le _, ?_⟩)⟩
      · rw [List.map_nil, List.append_nil]; exact hc
      · show pre.length + 0 + 0 + 2 ≤ t + 1; omega
    · refine stepB 59 (nx59 F) true [] [] t k pre rfl rfl t4 rfl (by omega) (by omega) (Or.inr (Or.inr (Or.inr ⟨rfl, rfl⟩))) g3 ?_ hs trivial (Nat.zero_le _) ?_
      · rw [List.map_nil, List.append_nil]; exact hc
      · show pre.length + 0 + 0 + 2 ≤ t; omega
  · exact stepB e nxt w st out t k pre a1 a2 a3 a4 a5 a6 a7 a8 a9 a10 a11 a12 a13
  · refine ok_if (fun _ => ok_s ⟨hc, hf⟩) (fun _ => ok_pos rfl (ok_s ⟨hc, hf⟩))
