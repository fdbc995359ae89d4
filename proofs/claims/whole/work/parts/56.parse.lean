/-! parsing: the spec's small steps, and the class's -/
/-- where a parse stands: token, fault, the fault's token -/
abbrev pst := Nat × Nat × Nat
def sRef (c : Nat) (p : pst) : pst := if p.2.1 = 0 then (p.1, c, p.1) else p
def sPass (p : pst) : pst := if p.1 < 400 then (p.1 + 1, p.2) else sRef 2 p
def sOnly (K : Nat → Nat) (k : Nat) (p : pst) : pst := if p.2.1 = 0 then (if K p.1 = k then sPass p else sRef 1 p) else p
def pWf (p : pst) : Prop := p.1 ≤ 400 ∧ p.2.1 ≤ 5
theorem sRef_wf {c : Nat} {p : pst} (h : pWf p) (hc : c ≤ 5) : pWf (sRef c p) := by
  unfold sRef
  split
  · exact ⟨h.1, hc⟩
  · exact h
theorem sPass_wf {p : pst} (h : pWf p) : pWf (sPass p) := by
  unfold sPass
  split
  · exact ⟨by show p.1 + 1 ≤ 400; omega, h.2⟩
  · exact sRef_wf h (by decide)
theorem sOnly_wf {K : Nat → Nat} {k : Nat} {p : pst} (h : pWf p) : pWf (sOnly K k p) := by
  unfold sOnly
  split
  · split
    · exact sPass_wf h
    · exact sRef_wf h (by decide)
  · exact h
def pC (p : pst) (S : qv_St) : Prop := S.1 7 6 = nI p.1 ∧ S.1 7 8 = nI p.2.1 ∧ (p.2.1 ≠ 0 → S.1 7 7 = nI p.2.2)
def fcP (S Z : qv_St) : Prop := (∀ c, c ≠ 7 → Z.1 c = S.1 c) ∧ (∀ k, k ≠ 6 → k ≠ 7 → k ≠ 8 → Z.1 7 k = S.1 7 k) ∧ Z.2 = S.2
theorem fcP_rfl {S : qv_St} : fcP S S := ⟨fun _ _ => rfl, fun _ _ _ _ => rfl, rfl⟩
theorem fcP_trans {S T U : qv_St} (h : fcP S T) (g : fcP T U) : fcP S U := ⟨fun c hc => (g.1 c hc).trans (h.1 c hc), fun k a b c => (g.2.1 k a b c).trans (h.2.1 k a b c), g.2.2.trans h.2.2⟩
theorem fcP_tk {B : Nat → Nat} {L : Nat} {S Z : qv_St} (h : tkC' B L S) (g : fcP S Z) : tkC' B L Z := tkC_fr h (g.1 3 (by decide)) (g.1 4 (by decide)) (g.1 5 (by decide)) (by rw [g.2.2])
theorem refC {p : pst} {S : qv_St} (c : Nat) (h : pC p S) (hw : pWf p) : okk (fX4_refuse S (nI c) (nI p.1)) (fun Z => pC (sRef c p) Z ∧ fcP S Z) := by
  unfold fX4_refuse sRef
  rw [h.2.1]
  have h5 := hw.2
  by_cases g : p.2.1 = 0
  · rw [if_pos g]
    refine ok_pos (by rw [g]; rfl) ?_
    simp only [qb_e]
    refine ok_s ⟨⟨?_, ?_, fun _ => ?_⟩, fun c hc => ?_, fun k h6 h7 h8 => ?_, rfl⟩
    · rw [qs_si, qs_eq, upd_ne (by decide), qs_si, qs_eq, upd_ne (by decide)]; exact h.1
    · rw [qs_si, qs_eq, upd_ne (by decide), qs_si, qs_eq, upd_eq]
    · rw [qs_si, qs_eq, upd_eq]
    · rw [qs_si, qs_ne hc, qs_si, qs_ne hc]
    · rw [qs_si, qs_eq, upd_ne h7, qs_si, qs_eq, upd_ne h8]
  · rw [if_neg g]
    exact ok_neg (nI_ne0 (by omega) (by omega)) (ok_s ⟨h, fcP_rfl⟩)
theorem passC {p : pst} {S : qv_St} (h : pC p S) (hw : pWf p) : okk (fX4_pass S) (fun Z => pC (sPass p) Z ∧ fcP S Z) := by
  unfold fX4_pass sPass
  have h4 := hw.1
  rw [h.1]
  by_cases g : p.1 < 400
  · rw [if_pos g]
    refine ok_pos (show nI p.1 < 400 from (nI_ltI (b := 400) (by omega) (by decide)).mpr g) ?_
    simp only [qb_e]
    refine ok_s ⟨⟨?_, ?_, fun z => ?_⟩, fun c hc => ?_, fun k h6 h7 h8 => ?_, rfl⟩
    · rw [qs_si, qs_eq, upd_eq, nI_1]
    · rw [qs_si, qs_eq, upd_ne (by decide)]; exact h.2.1
    · rw [qs_si, qs_eq, upd_ne (by decide)]; exact h.2.2 z
    · rw [qs_si, qs_ne hc]
    · rw [qs_si, qs_eq, upd_ne h6]
  · rw [if_neg g]
    refine ok_neg (show ¬ nI p.1 < 400 from fun z => g ((nI_ltI (b := 400) (by omega) (by decide)).mp z)) ?_
    obtain ⟨Z, Z1, Z2⟩ := refC 2 h hw
    rw [show (2 : Int32) = nI 2 from rfl, Z1, Option.bind_some]
    exact ok_s Z2
theorem onlyC {B : Nat → Nat} {L k : Nat} {p : pst} {S : qv_St} (h : pC p S) (hw : pWf p) (ht : tkC' B L S) (hk : k < 2 ^ 31) (htk : tk B L p.1 < 2 ^ 31) : okk (fX4_passOnly S (nI k)) (fun Z => pC (sOnly (tk B L) k p) Z ∧ fcP S Z) := by
  unfold fX4_passOnly sOnly
  have h4 := hw.1
  have h5 := hw.2
  rw [h.2.1, h.1]
  by_cases g : p.2.1 = 0
  · rw [if_pos g]
    refine ok_pos (by rw [g]; rfl) ?_
    rw [kindAtC ht (by omega), Option.bind_some]
    by_cases e : tk B L p.1 = k
    · rw [if_pos e]
      refine ok_pos (by rw [e]) ?_
      obtain ⟨Z, Z1, Z2⟩ := passC h hw
      rw [Z1, Option.bind_some]
      exact ok_s Z2
    · rw [if_neg e]
      refine ok_neg (fun z => e ((nI_eq htk hk).mp z)) ?_
      obtain ⟨Z, Z1, Z2⟩ := refC 1 h hw
      rw [show (1 : Int32) = nI 1 from rfl, Z1, Option.bind_some]
      exact ok_s Z2
  · rw [if_neg g]
    exact ok_neg (nI_ne0 (by omega) (by omega)) (ok_s ⟨h, fcP_rfl⟩)
