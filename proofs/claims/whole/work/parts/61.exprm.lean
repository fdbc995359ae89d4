/-! the reference's E -/
theorem ok_jj {α ρ : Type} {K : α} {b : α → Option ρ} {Q : ρ → Prop} (C : α → Prop) (h1 : C K) (h2 : ∀ K', C K' → okk (b K') Q) : okk (qv_j K b) Q := h2 K h1
def lM (B : Nat → Nat) (L : Nat) (p : pst) (S : qv_St) : Prop := S.1 0 13 = nI p.2.1 ∧ (p.2.1 = 0 → S.1 0 11 = nI p.1) ∧ (p.2.1 ≠ 0 → S.1 0 14 = nI (tp B L p.2.2))
def qW (B : Nat → Nat) (L : Nat) (p : pst) : Prop := pWf p ∧ (p.2.1 = 0 → p.1 ≤ nT B L)
theorem lM_of {B : Nat → Nat} {L : Nat} {p : pst} {S : qv_St} (h : pM B L p S) : lM B L p S := ⟨h.2.1, fun _ => h.1, h.2.2⟩
theorem lM_to {B : Nat → Nat} {L : Nat} {p : pst} {S : qv_St} (h : lM B L p S) (h0 : p.2.1 = 0) : pM B L p S := ⟨h.2.1 h0, h.1, h.2.2⟩
theorem lM_cg {B : Nat → Nat} {L : Nat} {p p' : pst} {S : qv_St} (h : lM B L p S) (hp : p.2.1 ≠ 0) (e : p'.2 = p.2) : lM B L p' S := by
  unfold lM
  rw [e]
  exact ⟨h.1, fun z => absurd z hp, h.2.2⟩
theorem lM_fr {B : Nat → Nat} {L : Nat} {p : pst} {S T : qv_St} (h : lM B L p S) (h1 : T.1 0 11 = S.1 0 11) (h2 : T.1 0 13 = S.1 0 13) (h3 : T.1 0 14 = S.1 0 14) : lM B L p T := by
  unfold lM
  rw [h1, h2, h3]
  exact h
theorem isLM {B : Nat → Nat} {L k : Nat} {p : pst} {S : qv_St} (h : lM B L p S) (hw : qW B L p) (ht : tkM' B L S) (hk : kOK k = true) : fX12_is S (nI (km k)) = some (if p.2.1 = 0 ∧ tk B L p.1 = k then 1 else 0) := by
  by_cases h0 : p.2.1 = 0
  · exact isM (lM_to h h0) ⟨hw.1, hw.2 h0⟩ ht hk
  · have h5 := hw.1.2
    unfold fX12_is
    simp only [qj_e]
    rw [h.1, if_neg (nI_ne0 (by omega) (by omega)), if_neg (fun z => h0 z.1)]
theorem failL {B : Nat → Nat} {L : Nat} {p : pst} {S : qv_St} (c : Nat) (h : lM B L p S) (hw : qW B L p) (ht : tkM' B L S) : okk (fX12_fail S (nI c)) (fun Z => lM B L (sRef c p) Z ∧ fmP S Z) := by
  by_cases h0 : p.2.1 = 0
  · exact ok_mono (failM c (lM_to h h0) ⟨hw.1, hw.2 h0⟩ ht) (fun Z hz => ⟨lM_of hz.1, hz.2⟩)
  · have h5 := hw.1.2
    rw [sRef_f h0]
    unfold fX12_fail
    exact ok_neg (by rw [h.1]; exact nI_nle (by omega) (by omega)) (ok_s ⟨h, fmP_rfl⟩)
theorem goesL {B : Nat → Nat} {L : Nat} {p : pst} {S : qv_St} (h : lM B L p S) (hw : qW B L p) (ht : tkM' B L S) : okk (fX12_goesOn S) (fun Z => lM B L (sPass p) Z ∧ fmP S Z) := by
  by_cases h0 : p.2.1 = 0
  · exact ok_mono (goesM (lM_to h h0) ⟨hw.1, hw.2 h0⟩ ht) (fun Z hz => ⟨lM_of hz.1, hz.2⟩)
  · have h2 := sPass_f h0
    unfold fX12_goesOn
    refine ok_if (fun g => ?_) (fun g => ?_)
    · refine ok_bd (failL 2 h hw ht) (fun Z hz => ok_s ⟨?_, hz.2⟩)
      have hz1 := hz.1
      rw [sRef_f h0] at hz1
      exact lM_cg hz1 h0 h2
    · simp only [qb_e]
      refine ok_s ⟨lM_cg (p := p) ⟨?_, fun z => absurd z h0, fun z => ?_⟩ h0 h2, fun c hc => ?_, fun k h6 h7 h8 => ?_, rfl⟩
      · rw [qs_si, qs_eq, upd_ne (by decide)]; exact h.1
      · rw [qs_si, qs_eq, upd_ne (by decide)]; exact h.2.2 z
      · rw [qs_si, qs_ne hc]
      · rw [qs_si, qs_eq, upd_ne h6]
theorem mustL {B : Nat → Nat} {L k : Nat} {p : pst} {S : qv_St} (h : lM B L p S) (hw : qW B L p) (ht : tkM' B L S) (hk : kOK k = true) : okk (fX12_must S (nI (km k))) (fun Z => lM B L (sOnly (tk B L) k p) Z ∧ fmP S Z) := by
  by_cases h0 : p.2.1 = 0
  · exact ok_mono (mustM (lM_to h h0) ⟨hw.1, hw.2 h0⟩ ht hk) (fun Z hz => ⟨lM_of hz.1, hz.2⟩)
  · rw [sOnly_f h0]
    unfold fX12_must
    rw [isLM h hw ht hk, Option.bind_some, if_neg (show ¬ (p.2.1 = 0 ∧ tk B L p.1 = k) from fun z => h0 z.1)]
    refine ok_pos rfl (ok_bd (failL 1 h hw ht) (fun Z hz => ok_s ?_))
    have hz1 := hz.1
    rw [sRef_f h0] at hz1
    exact ⟨hz1, hz.2⟩
theorem sOnly_q {B : Nat → Nat} {L k : Nat} {p : pst} (h : qW B L p) (hk : k ≠ 24) : qW B L (sOnly (tk B L) k p) := by
  refine ⟨sOnly_wf h.1, fun z => ?_⟩
  by_cases h0 : p.2.1 = 0
  · exact (sOnly_n ⟨h.1, h.2 h0⟩ hk).2
  · rw [sOnly_f h0] at z
    exact absurd z h0
theorem sRef_q {B : Nat → Nat} {L c : Nat} {p : pst} (h : qW B L p) (hc : c ≤ 5) : qW B L (sRef c p) := by
  refine ⟨sRef_wf h.1 hc, fun z => ?_⟩
  by_cases h0 : p.2.1 = 0
  · exact (sRef_n ⟨h.1, h.2 h0⟩ hc).2
  · rw [sRef_f h0] at z
    exact absurd z h0
theorem sPass_q {B : Nat → Nat} {L : Nat} {p : pst} (h : qW B L p) (hp : p.2.1 = 0 → tk B L p.1 ≠ 24) : qW B L (sPass p) := by
  refine ⟨sPass_wf h.1, fun z => ?_⟩
  by_cases h0 : p.2.1 = 0
  · exact (sPass_n ⟨h.1, h.2 h0⟩ (hp h0)).2
  · rw [sPass_f h0] at z
    exact absurd z h0
/-! codes and the stack -/
def stk (st : List Nat) (S : qv_St) : Prop := S.1 0 49 = nI st.length ∧ prep (S.1 33) (st.map (fun x => nI (km x)))
def cds (c0 : Nat) (out : lwC) (S : qv_St) : Prop := S.1 0 45 = nI (c0 + out.length) ∧ codeAt (S.1 31) (S.1 32) c0 out
def fmK (sd c0 : Nat) (S Z : qv_St) : Prop := (∀ q, q ≠ 0 → q ≠ 31 → q ≠ 32 → Z.1 q = S.1 q) ∧ (∀ k, k ≠ 45 → k ≠ 49 → Z.1 0 k = S.1 0 k) ∧ Z.2 = S.2 ∧ (∀ j, (j < c0 ∨ 420 * sd + 420 ≤ j) → Z.1 31 j = S.1 31 j ∧ Z.1 32 j = S.1 32 j)
def fmE (sd c0 : Nat) (S Z : qv_St) : Prop := (∀ q, q ≠ 0 → q ≠ 31 → q ≠ 32 → q ≠ 33 → Z.1 q = S.1 q) ∧ (∀ k, k ≠ 11 → k ≠ 12 → k ≠ 13 → k ≠ 14 → k ≠ 45 → k ≠ 49 → Z.1 0 k = S.1 0 k) ∧ Z.2 = S.2 ∧ (∀ j, (j < c0 ∨ 420 * sd + 420 ≤ j) → Z.1 31 j = S.1 31 j ∧ Z.1 32 j = S.1 32 j)
theorem fmK_rfl {sd c0 : Nat} {S : qv_St} : fmK sd c0 S S := ⟨fun _ _ _ _ => rfl, fun _ _ _ => rfl, rfl, fun _ _ => ⟨rfl, rfl⟩⟩
theorem fmK_trans {sd c0 : Nat} {S T U : qv_St} (h : fmK sd c0 S T) (g : fmK sd c0 T U) : fmK sd c0 S U := ⟨fun q a b c => (g.1 q a b c).trans (h.1 q a b c), fun k a b => (g.2.1 k a b).trans (h.2.1 k a b), g.2.2.1.trans h.2.2.1, fun j hj => ⟨(g.2.2.2 j hj).1.trans (h.2.2.2 j hj).1, (g.2.2.2 j hj).2.trans (h.2.2.2 j hj).2⟩⟩
theorem fmE_rfl {sd c0 : Nat} {S : qv_St} : fmE sd c0 S S := ⟨fun _ _ _ _ _ => rfl, fun _ _ _ _ _ _ _ => rfl, rfl, fun _ _ => ⟨rfl, rfl⟩⟩
theorem fmE_trans {sd c0 : Nat} {S T U : qv_St} (h : fmE sd c0 S T) (g : fmE sd c0 T U) : fmE sd c0 S U := ⟨fun q a b c d => (g.1 q a b c d).trans (h.1 q a b c d), fun k a b c d e f => (g.2.1 k a b c d e f).trans (h.2.1 k a b c d e f), g.2.2.1.trans h.2.2.1, fun j hj => ⟨(g.2.2.2 j hj).1.trans (h.2.2.2 j hj).1, (g.2.2.2 j hj).2.trans (h.2.2.2 j hj).2⟩⟩
theorem fmE_K {sd c0 : Nat} {S T : qv_St} (h : fmK sd c0 S T) : fmE sd c0 S T := ⟨fun q a b c _ => h.1 q a b c, fun k _ _ _ _ e f => h.2.1 k e f, h.2.2.1, h.2.2.2⟩
theorem fmE_P {sd c0 : Nat} {S T : qv_St} (h : fmP S T) : fmE sd c0 S T := ⟨fun q a _ _ _ => h.1 q a, fun k a _ b c _ _ => h.2.1 k a b c, h.2.2, fun j _ => ⟨by rw [h.1 31 (by decide)], by rw [h.1 32 (by decide)]⟩⟩
theorem fmE_si {sd c0 k : Nat} {S : qv_St} {x : Int32} (hk : k = 12 ∨ k = 49) : fmE sd c0 S (qv_si S 0 k x) := ⟨fun q a _ _ _ => by rw [qs_si, qs_ne a], fun j _ b _ _ _ f => by rw [qs_si, qs_eq, upd_ne (by omega)], rfl, fun j _ => by rw [qs_si, qs_ne (by decide), qs_ne (by decide)]; exact ⟨rfl, rfl⟩⟩
theorem fmE_33 {sd c0 k : Nat} {S : qv_St} {x : Int32} : fmE sd c0 S (qv_si S 33 k x) := ⟨fun q _ _ _ d => by rw [qs_si, qs_ne d], fun j _ _ _ _ _ _ => by rw [qs_si, qs_ne (by decide)], rfl, fun j _ => by rw [qs_si, qs_ne (by decide), qs_ne (by decide)]; exact ⟨rfl, rfl⟩⟩
theorem fmE_tk {B : Nat → Nat} {L sd c0 : Nat} {S Z : qv_St} (h : tkM' B L S) (g : fmE sd c0 S Z) : tkM' B L Z := tkM_fr h (g.1 3 (by decide) (by decide) (by decide) (by decide)) (g.1 4 (by decide) (by decide) (by decide) (by decide)) (g.1 5 (by decide) (by decide) (by decide) (by decide)) (by rw [g.2.2.1])
theorem codeAt_snoc {A C : Nat → Int32} {k v : Int32} : ∀ (out : lwC) (a : Nat), codeAt A C a out → codeAt (upd A (a + out.length) k) (upd C (a + out.length) v) a (out ++ [(k, v)])
  | [], a, _ => ⟨upd_eq, upd_eq, trivial⟩
  | o :: t, a, h => by
    refine ⟨?_, ?_, ?_⟩
    · rw [upd_ne (by simp only [List.length_cons]; omega)]; exact h.1
    · rw [upd_ne (by simp only [List.length_cons]; omega)]; exact h.2.1
    · have := codeAt_snoc (k := k) (v := v) t (a + 1) h.2.2
      rw [show a + 1 + t.length = a + (o :: t).length by simp only [List.length_cons]; omega] at this
      exact this
theorem emitX {sd c0 : Nat} {out : lwC} {S : qv_St} {k v : Int32} (hc : cds c0 out S) (hsd : sd ≤ 1) (hb : c0 + out.length < 420 * sd + 420) : okk (fX12_emit S k v) (fun Z => cds c0 (out ++ [(k, v)]) Z ∧ fmK sd c0 S Z ∧ Z.1 0 49 = S.1 0 49) := by
  unfold fX12_emit
  rw [hc.1]
  refine ok_ck _ rfl (by omega) (by decide) ?_
  rw [qi_cl (by omega)]
  simp only [qb_e]
  have e45 : (qv_si S 31 (c0 + out.length) k).1 0 45 = nI (c0 + out.length) := by rw [qs_si, qs_ne (by decide)]; exact hc.1
  rw [e45]
  refine ok_ck _ rfl (by omega) (by decide) ?_
  rw [qi_cl (by omega)]
  have e0 : (qv_si (qv_si S 31 (c0 + out.length) k) 32 (c0 + out.length) v).1 0 = S.1 0 := by rw [qs_si, qs_ne (by decide), qs_si, qs_ne (by decide)]
  have e31 : (qv_si (qv_si S 31 (c0 + out.length) k) 32 (c0 + out.length) v).1 31 = upd (S.1 31) (c0 + out.length) k := by rw [qs_si, qs_ne (by decide), qs_si, qs_eq]
  have e32 : (qv_si (qv_si S 31 (c0 + out.length) k) 32 (c0 + out.length) v).1 32 = upd (S.1 32) (c0 + out.length) v := by rw [qs_si, qs_eq, qs_si, qs_ne (by decide)]
  have eq : ∀ q, q ≠ 0 → q ≠ 31 → q ≠ 32 → (qv_si (qv_si S 31 (c0 + out.length) k) 32 (c0 + out.length) v).1 q = S.1 q := fun q _ q2 q3 => by rw [qs_si, qs_ne q3, qs_si, qs_ne q2]
  have e2 : (qv_si (qv_si S 31 (c0 + out.length) k) 32 (c0 + out.length) v).2 = S.2 := rfl
  generalize qv_si (qv_si S 31 (c0 + out.length) k) 32 (c0 + out.length) v = T at e0 e31 e32 eq e2 ⊢
  rw [e0, hc.1, nI_1]
  refine ok_s ⟨⟨?_, ?_⟩, ⟨fun q q1 q2 q3 => ?_, fun j j1 j2 => ?_, e2, fun j hj => ⟨?_, ?_⟩⟩, ?_⟩
  · rw [qs_si, qs_eq, upd_eq, List.length_append]; rfl
  · rw [qs_si, qs_ne (by decide), qs_ne (by decide), e31, e32]
    exact codeAt_snoc out c0 hc.2
  · rw [qs_si, qs_ne q1]; exact eq q q1 q2 q3
  · rw [qs_si, qs_eq, upd_ne j1, e0]
  · rw [qs_si, qs_ne (by decide), e31, upd_ne (by omega)]
  · rw [qs_si, qs_ne (by decide), e32, upd_ne (by omega)]
  · rw [qs_si, qs_eq, upd_ne (by decide), e0]
theorem comesM {sd c0 r : Nat} {st : List Nat} {out : lwC} {S : qv_St} {x : Int32} (hs : stk st S) (hc : cds c0 out S) (hw : wst st) (hl : st.length ≤ 60) (hsd : sd ≤ 1) (hb : c0 + out.length + nP st ≤ 420 * sd + 419) (hr : (r = 1 ∧ x = 0) ∨ (r = 2 ∧ x = 1)) : okk (fX12_comesOut S x) (fun Z => stk (popS r st) Z ∧ cds c0 (out ++ popK r st) Z ∧ fmK sd c0 S Z) := by
  unfold fX12_comesOut
  have hN5 := qN
  generalize qv_N = N at hN5 ⊢
  simp only [qj_e]
  refine ok_lp1 (fun n T => ∃ u o, n = u.length ∧ stk u T ∧ cds c0 o T ∧ wst u ∧ popS r u = popS r st ∧ o ++ popK r u = out ++ popK r st ∧ fmK sd c0 S T ∧ c0 + o.length + nP u ≤ 420 * sd + 419 ∧ u.length ≤ 60) ?_ N st.length S ⟨st, out, rfl, hs, hc, hw, rfl, rfl, fmK_rfl, hb, hl⟩ (by omega)
  rintro self n T ⟨u, o, rfl, us, uc, uw, up, uo, uf, ub, ul⟩ ih
  cases u with
  | nil =>
    refine ok_pos (by rw [us.1]; decide) (ok_s ⟨?_, ?_, uf⟩)
    · rw [← up]; exact us
    · rw [← uo, popK, List.append_nil]; exact uc
  | cons y v =>
    have us1 : T.1 0 49 = nI (v.length + 1) := us.1
    have us2 : T.1 33 v.length = nI (km y) := by have := us.2.1; rw [List.length_map] at this; exact this
    have us3 : prep (T.1 33) (v.map (fun x => nI (km x))) := us.2.2
    rw [List.length_cons] at ul
    rw [us1, nI_pred]
    refine ok_neg (nI_nle (by omega) (by omega)) (ok_ck _ rfl (by omega) (by decide) ?_)
    rw [qi_cl (by omega)]
    simp only [qb_e]
    rw [us2]
    have stop : rkO y < r → okk (some T) (fun Z => stk (popS r st) Z ∧ cds c0 (out ++ popK r st) Z ∧ fmK sd c0 S Z) := by
      intro h
      rw [popS, if_pos h] at up
      rw [popK, if_pos h, List.append_nil] at uo
      rw [← up, ← uo]
      exact ok_s ⟨us, uc, uf⟩
    have go : ∀ c : Int32, ¬ rkO y < r → y ≠ 40 → c = opc y → okk ((fX12_emit (qv_si T 0 49 (nI v.length)) c 0).bind fun S_3 => self S_3) (fun Z => stk (popS r st) Z ∧ cds c0 (out ++ popK r st) Z ∧ fmK sd c0 S Z) := by
      intro c h h40 hcy
      have hnp : nP (y :: v) = nP v + 1 := by rw [nP, if_neg h40]
      have uc2 : cds c0 o (qv_si T 0 49 (nI v.length)) := by
        refine ⟨?_, ?_⟩
        · rw [qs_si, qs_eq, upd_ne (by decide)]; exact uc.1
        · rw [qs_si, qs_ne (by decide), qs_ne (by decide)]; exact uc.2
      have uf2 : fmK sd c0 T (qv_si T 0 49 (nI v.length)) := ⟨fun q a _ _ => by rw [qs_si, qs_ne a], fun j _ b => by rw [qs_si, qs_eq, upd_ne b], rfl, fun j _ => by rw [qs_si, qs_ne (by decide), qs_ne (by decide)]; exact ⟨rfl, rfl⟩⟩
      refine ok_bd (emitX (k := c) (v := 0) uc2 hsd (by omega)) ?_
      rintro Z ⟨z1, z2, z3⟩
      rw [popS, if_neg h] at up
      rw [popK, if_neg h] at uo
      refine ih v.length _ (Nat.lt_succ_self _) ⟨v, o ++ [(c, 0)], rfl, ⟨?_, ?_⟩, z1, uw.1, up, ?_, fmK_trans uf (fmK_trans uf2 z2), ?_, by omega⟩
      · rw [z3, qs_si, qs_eq, upd_eq]
      · rw [z2.1 33 (by decide) (by decide) (by decide), qs_si, qs_ne (by decide)]; exact us3
      · rw [← uo, List.append_assoc, hcy]; rfl
      · rw [List.length_append]; show c0 + (o.length + 1) + nP v ≤ _; omega
    rcases uw.2 with h40 | ⟨hop, _⟩
    · subst h40
      refine ok_pos (by decide) (stop ?_)
      rw [rk40]; omega
    · rcases hr with ⟨rfl, rfl⟩ | ⟨rfl, rfl⟩
      · have h1 := (rk_op hop).1
        have h4 := (rk_op hop).2.2
        rcases isop_iff.mp hop with rfl | rfl | rfl | rfl
        · exact ok_neg (by decide) (ok_pos rfl (ok_pos (by decide) (go 2 (by omega) h4 rfl)))
        · exact ok_neg (by decide) (ok_pos rfl (ok_neg (by decide) (ok_pos (by decide) (go 3 (by omega) h4 rfl))))
        · exact ok_neg (by decide) (ok_pos rfl (ok_neg (by decide) (ok_neg (by decide) (ok_pos (by decide) (go 4 (by omega) h4 rfl)))))
        · exact ok_neg (by decide) (ok_pos rfl (ok_neg (by decide) (ok_neg (by decide) (ok_neg (by decide) (go 5 (by omega) h4 rfl)))))
      · rcases isop_iff.mp hop with rfl | rfl | rfl | rfl
        · exact ok_neg (by decide) (ok_neg (by decide) (ok_pos (by decide) (stop (by decide))))
        · exact ok_neg (by decide) (ok_neg (by decide) (ok_neg (by decide) (ok_pos (by decide) (stop (by decide)))))
        · exact ok_neg (by decide) (ok_neg (by decide) (ok_neg (by decide) (ok_neg (by decide) (ok_neg (by decide) (ok_neg (by decide) (ok_pos (by decide) (go 4 (by decide) (by decide) rfl)))))))
        · exact ok_neg (by decide) (ok_neg (by decide) (ok_neg (by decide) (ok_neg (by decide) (ok_neg (by decide) (ok_neg (by decide) (ok_neg (by decide) (go 5 (by decide) (by decide) rfl)))))))
