/-! parsing: the reference's small steps -/
def kOK (a : Nat) : Bool := decide (a ≤ 25) || (a == 59) || (a == 61) || (a == 43) || (a == 45) || (a == 42) || (a == 47) || (a == 60) || (a == 40) || (a == 41)
theorem km_inj : ∀ a, a < 62 → ∀ b, b < 62 → kOK a = true → kOK b = true → km a = km b → a = b := by decide +kernel
theorem km_lt : ∀ a, a < 62 → km a < 42 := by decide +kernel
theorem kOK_lt {a : Nat} (h : kOK a = true) : a < 62 := by
  unfold kOK at h
  simp only [Bool.or_eq_true, decide_eq_true_eq, beq_iff_eq] at h
  omega
theorem sg_ok (c : Nat) : kOK (sg c) = true := by
  unfold sg
  split
  · rename_i h
    rcases h with h | h | h | h | h | h | h | h | h <;> rw [h] <;> rfl
  · rfl
theorem kd_ok {B : Nat → Nat} {L p : Nat} : kOK (kd B L p) = true := by
  have low : ∀ a, a ≤ 25 → kOK a = true := fun a h => by unfold kOK; simp [h]
  unfold kd
  split
  · split
    · exact low _ (Nat.le_trans (wd_le _ _) (by decide))
    · rfl
  · split
    · split <;> rfl
    · exact sg_ok _
theorem tk_ok {B : Nat → Nat} {L i : Nat} : kOK (tk B L i) = true := by
  unfold tk
  split
  · exact kd_ok
  · rfl
def pWn (B : Nat → Nat) (L : Nat) (p : pst) : Prop := pWf p ∧ p.1 ≤ nT B L
def pM (B : Nat → Nat) (L : Nat) (p : pst) (S : qv_St) : Prop := S.1 0 11 = nI p.1 ∧ S.1 0 13 = nI p.2.1 ∧ (p.2.1 ≠ 0 → S.1 0 14 = nI (tp B L p.2.2))
def fmP (S Z : qv_St) : Prop := (∀ c, c ≠ 0 → Z.1 c = S.1 c) ∧ (∀ k, k ≠ 11 → k ≠ 13 → k ≠ 14 → Z.1 0 k = S.1 0 k) ∧ Z.2 = S.2
theorem fmP_rfl {S : qv_St} : fmP S S := ⟨fun _ _ => rfl, fun _ _ _ _ => rfl, rfl⟩
theorem fmP_trans {S T U : qv_St} (h : fmP S T) (g : fmP T U) : fmP S U := ⟨fun c hc => (g.1 c hc).trans (h.1 c hc), fun k a b c => (g.2.1 k a b c).trans (h.2.1 k a b c), g.2.2.trans h.2.2⟩
theorem fmP_tk {B : Nat → Nat} {L : Nat} {S Z : qv_St} (h : tkM' B L S) (g : fmP S Z) : tkM' B L Z := tkM_fr h (g.1 3 (by decide)) (g.1 4 (by decide)) (g.1 5 (by decide)) (by rw [g.2.2])
theorem isM {B : Nat → Nat} {L k : Nat} {p : pst} {S : qv_St} (h : pM B L p S) (hw : pWn B L p) (ht : tkM' B L S) (hk : kOK k = true) : fX12_is S (nI (km k)) = some (if p.2.1 = 0 ∧ tk B L p.1 = k then 1 else 0) := by
  have h4 := hw.1.1
  have h5 := hw.1.2
  unfold fX12_is
  simp only [qj_e]
  rw [h.2.1, h.1]
  by_cases g : p.2.1 = 0
  · rw [if_pos (by rw [g]; rfl), qi_ck (by omega) (by decide), qi_cl (by omega), (kindM ht hw.2 h4).1]
    have hk62 := kOK_lt hk
    have ht62 := kOK_lt (tk_ok (B := B) (L := L) (i := p.1))
    have l1 := km_lt _ hk62
    have l2 := km_lt _ ht62
    by_cases e : tk B L p.1 = k
    · rw [if_pos (by rw [e]), if_pos ⟨g, e⟩]
    · rw [if_neg (fun z => e (km_inj _ ht62 _ hk62 tk_ok hk ((nI_eq (by omega) (by omega)).mp z))), if_neg (fun z => e z.2)]
  · rw [if_neg (nI_ne0 (by omega) (by omega)), if_neg (fun z => g z.1)]
theorem failM {B : Nat → Nat} {L : Nat} {p : pst} {S : qv_St} (c : Nat) (h : pM B L p S) (hw : pWn B L p) (ht : tkM' B L S) : okk (fX12_fail S (nI c)) (fun Z => pM B L (sRef c p) Z ∧ fmP S Z) := by
  have h4 := hw.1.1
  have h5 := hw.1.2
  unfold fX12_fail sRef
  rw [h.2.1]
  by_cases g : p.2.1 = 0
  · rw [if_pos g]
    refine ok_pos (by rw [g]; decide) ?_
    refine ok_b (fun X => X = qv_si S 0 13 (nI c)) rfl ?_
    rintro X rfl
    have a1 : (qv_si S 0 13 (nI c)).1 0 11 = nI p.1 := by rw [qs_si, qs_eq, upd_ne (by decide)]; exact h.1
    have a2 : (qv_si S 0 13 (nI c)).1 4 p.1 = nI (tp B L p.1) := by rw [qs_si, qs_ne (by decide)]; exact (kindM ht hw.2 h4).2
    rw [a1, qi_ck (by omega) (by decide), qi_cl (by omega), a2]
    simp only [qb_e]
    refine ok_s ⟨⟨?_, ?_, fun _ => ?_⟩, fun c hc => ?_, fun k h6 h7 h8 => ?_, rfl⟩
    · rw [qs_si, qs_eq, upd_ne (by decide)]; exact a1
    · rw [qs_si, qs_eq, upd_ne (by decide), qs_si, qs_eq, upd_eq]
    · rw [qs_si, qs_eq, upd_eq]
    · rw [qs_si, qs_ne hc, qs_si, qs_ne hc]
    · rw [qs_si, qs_eq, upd_ne h8, qs_si, qs_eq, upd_ne h7]
  · rw [if_neg g]
    exact ok_neg (show ¬ nI p.2.1 ≤ 0 from nI_ge (a := 0) (by omega) (by omega)) (ok_s ⟨h, fmP_rfl⟩)
theorem goesM {B : Nat → Nat} {L : Nat} {p : pst} {S : qv_St} (h : pM B L p S) (hw : pWn B L p) (ht : tkM' B L S) : okk (fX12_goesOn S) (fun Z => pM B L (sPass p) Z ∧ fmP S Z) := by
  have h4 := hw.1.1
  unfold fX12_goesOn sPass
  rw [h.1]
  by_cases g : p.1 < 400
  · rw [if_pos g]
    refine ok_neg (show ¬ nI p.1 = 400 from fun z => by have := (nI_eq (b := 400) (by omega) (by decide)).mp z; omega) ?_
    simp only [qb_e]
    refine ok_s ⟨⟨?_, ?_, fun z => ?_⟩, fun c hc => ?_, fun k h6 h7 h8 => ?_, rfl⟩
    · rw [qs_si, qs_eq, upd_eq, nI_1]
    · rw [qs_si, qs_eq, upd_ne (by decide)]; exact h.2.1
    · rw [qs_si, qs_eq, upd_ne (by decide)]; exact h.2.2 z
    · rw [qs_si, qs_ne hc]
    · rw [qs_si, qs_eq, upd_ne h6]
  · rw [if_neg g]
    refine ok_pos (by rw [show p.1 = 400 by omega]; rfl) ?_
    obtain ⟨Z, Z1, Z2⟩ := failM 2 h hw ht
    rw [show (2 : Int32) = nI 2 from rfl, Z1, Option.bind_some]
    exact ok_s Z2
theorem mustM {B : Nat → Nat} {L k : Nat} {p : pst} {S : qv_St} (h : pM B L p S) (hw : pWn B L p) (ht : tkM' B L S) (hk : kOK k = true) : okk (fX12_must S (nI (km k))) (fun Z => pM B L (sOnly (tk B L) k p) Z ∧ fmP S Z) := by
  unfold fX12_must sOnly
  rw [isM h hw ht hk, Option.bind_some]
  obtain ⟨Z, Z1, Z2⟩ := failM 1 h hw ht
  have Z1 : fX12_fail S 1 = some Z := Z1
  by_cases g : p.2.1 = 0
  · rw [if_pos g]
    by_cases e : tk B L p.1 = k
    · rw [if_pos (show p.2.1 = 0 ∧ tk B L p.1 = k from ⟨g, e⟩), if_pos e]
      refine ok_neg (by decide) ?_
      obtain ⟨Y, Y1, Y2⟩ := goesM h hw ht
      rw [Y1, Option.bind_some]
      exact ok_s Y2
    · rw [if_neg (show ¬ (p.2.1 = 0 ∧ tk B L p.1 = k) from fun z => e z.2), if_neg e]
      refine ok_pos rfl ?_
      rw [Z1, Option.bind_some]
      exact ok_s Z2
  · rw [if_neg (show ¬ (p.2.1 = 0 ∧ tk B L p.1 = k) from fun z => g z.1), if_neg g]
    refine ok_pos rfl ?_
    rw [Z1, Option.bind_some]
    have : sRef 1 p = p := by unfold sRef; rw [if_neg g]
    rw [this] at Z2
    exact ok_s Z2
theorem sRef_n {B : Nat → Nat} {L c : Nat} {p : pst} (h : pWn B L p) (hc : c ≤ 5) : pWn B L (sRef c p) := by
  refine ⟨sRef_wf h.1 hc, ?_⟩
  unfold sRef
  split
  · exact h.2
  · exact h.2
theorem sPass_n {B : Nat → Nat} {L : Nat} {p : pst} (h : pWn B L p) (hp : tk B L p.1 ≠ 24) : pWn B L (sPass p) := by
  refine ⟨sPass_wf h.1, ?_⟩
  have := (tk_in hp).1
  unfold sPass
  split
  · exact this
  · exact (sRef_n h (by decide)).2
theorem sOnly_n {B : Nat → Nat} {L k : Nat} {p : pst} (h : pWn B L p) (hk : k ≠ 24) : pWn B L (sOnly (tk B L) k p) := by
  unfold sOnly
  split
  · split
    · rename_i e
      exact sPass_n h (by rw [e]; exact hk)
    · exact sRef_n h (by decide)
  · exact h
