/-! next, loudest, peak, calmest, ours, bears, noise, shot -/
theorem enc_neg {d : Int32} {o : Option Nat} (hd : d < 0) (ho : ∀ a, o = some a → a < 2 ^ 31) : enc d o < 0 ↔ o.isSome = false := by
  cases o with
  | none => exact ⟨fun _ => rfl, fun _ => hd⟩
  | some a => exact ⟨fun h => absurd h (nI_pos (ho a rfl)), fun h => by cases h⟩
theorem call_next {E : sE} {lv : Nat} {S1 S2 : qv_St} (h1 : qC E S1) (h2 : qM lv E S2) (a : Int32) : ask2 E S1 S2 (fX11_next S1 a) (fX12_next S2 a) := by
  unfold fX11_next fX12_next
  have hN5 := qN
  generalize qv_N = N at hN5 ⊢
  rcases noI (x := a) h1 h2 with ⟨e1, e2⟩ | ⟨k, hk, rfl, e1, e2⟩
  · rw [e1, e2, b0, b0, if_pos rfl, if_pos rfl]; exact ask2_no h1
  rw [e1, e2, b1, b1, if_neg n10, if_neg n10]
  have hv := h1.1
  have h8 := hv.1.1
  have h0 := hv.2.2 0 (by decide)
  have hpd := hv.2.2 (4 + k) (by omega)
  refine ask2_mk (if fs (fun n => (agE E k (E.2.2.2 0 + n)).isSome) 0 301 < 301 then nI (fs (fun n => (agE E k (E.2.2.2 0 + n)).isSome) 0 301) else -2) ?_ ?_
  · refine ok_lp2 (fun m T x => ∃ i, m = 301 - i ∧ i ≤ 301 ∧ x = nI i ∧ (∀ j, j < i → (agE E k (E.2.2.2 0 + j)).isSome = false) ∧ HC E T ∧ frC S1 T) ?_ N 301 S1 0 ⟨0, rfl, by omega, rfl, fun j hj => by omega, h1.2.1, frC_rf⟩ (by omega)
    rintro self m T x ⟨i, rfl, hi, rfl, hj, hT, hf⟩ ih
    by_cases e : i = 301
    · subst e
      refine ok_pos (by decide) (ok_s ⟨?_, qC_fr h1 hT hf, frE_C hf⟩)
      show -2 = _
      rw [if_neg]
      intro z
      obtain ⟨g1, g2, g3, g4⟩ := fs_spec (P := fun n => (agE E k (E.2.2.2 0 + n)).isSome) 301 0
      have := hj _ z
      rw [g4 (by omega)] at this
      cases this
    · refine ok_neg (show ¬ (300 : Int32) < nI i from nI_nlt (b := i) (a := 300) (by omega) (by decide)) (ok_ck k rfl (by omega) (by decide) ?_)
      rw [hT.2.1.1, nI_add, qi_cl (by omega), hT.2.1.2.2.2.2.1 k (by omega)]
      refine ok_cm (ageC2 hT hv hk (by omega) (by omega)) ?_
      rintro S5 r ⟨hr, hC5, hf5⟩
      have hr : r = enc (-2) (agE E k (E.2.2.2 0 + i)) := hr
      have hC5 : HC E S5 := hC5
      have hf5 : frC T S5 := hf5
      subst hr
      have hen := enc_neg (d := -2) (o := agE E k (E.2.2.2 0 + i)) (by decide) (fun a ha => by have := agE_lt hv hk ha; omega)
      rw [nI_1]
      refine ok_if (fun g => ?_) (fun g => ok_s ⟨?_, qC_fr h1 hC5 (frC_tr hf hf5), frE_C (frC_tr hf hf5)⟩)
      · refine ih (301 - (i + 1)) _ _ (by omega) ⟨i + 1, rfl, by omega, rfl, fun j hj2 => ?_, hC5, frC_tr hf hf5⟩
        by_cases e2 : j = i
        · subst e2; exact hen.mp g
        · exact hj j (by omega)
      · have e2 : fs (fun n => (agE E k (E.2.2.2 0 + n)).isSome) 0 301 = i := fs_uniq (by omega) (by omega) (fun j _ h => hj j h) (fun _ => by
          cases hb : (agE E k (E.2.2.2 0 + i)).isSome with
          | true => rfl
          | false => exact absurd (hen.mpr hb) g)
        show nI i = _
        rw [e2, if_pos (by omega)]
  · refine ok_bd (copiesQ h2) ?_
    rintro T ⟨hT, hf⟩
    refine ok_lp1 (fun m x => ∃ i, m = 301 - i ∧ i ≤ 301 ∧ x = nI i ∧ (∀ j, j < i → (agE E k (E.2.2.2 0 + j)).isSome = false)) ?_ N 301 0 ⟨0, rfl, by omega, rfl, fun j hj => by omega⟩ (by omega)
    rintro self m x ⟨i, rfl, hi, rfl, hj⟩ ih
    by_cases e : i = 301
    · subst e
      refine ok_pos (by decide) (ok_s ⟨?_, hf⟩)
      show -2 = _
      rw [if_neg]
      intro z
      obtain ⟨g1, g2, g3, g4⟩ := fs_spec (P := fun n => (agE E k (E.2.2.2 0 + n)).isSome) 301 0
      have := hj _ z
      rw [g4 (by omega)] at this
      cases this
    · refine ok_neg (show ¬ (300 : Int32) < nI i from nI_nlt (b := i) (a := 300) (by omega) (by decide)) (ok_ck 0 rfl (by decide) (by decide) ?_)
      rw [tc0, hT.2.1 0 (by decide), nI_add, ageNowM hT h2.1 hk (by omega), Option.bind_some]
      have hen := enc_neg (d := -1) (o := agE E k (E.2.2.2 0 + i)) (by decide) (fun a ha => by have := agE_lt hv hk ha; omega)
      rw [nI_1]
      refine ok_if (fun g => ?_) (fun g => ok_s ⟨?_, hf⟩)
      · refine ih (301 - (i + 1)) _ (by omega) ⟨i + 1, rfl, by omega, rfl, fun j hj2 => ?_⟩
        by_cases e2 : j = i
        · subst e2; exact hen.mp g
        · exact hj j (by omega)
      · have e2 : fs (fun n => (agE E k (E.2.2.2 0 + n)).isSome) 0 301 = i := fs_uniq (by omega) (by omega) (fun j _ h => hj j h) (fun _ => by
          cases hb : (agE E k (E.2.2.2 0 + i)).isSome with
          | true => rfl
          | false => exact absurd (hen.mpr hb) g)
        show nI i = _
        rw [e2, if_pos (by omega)]
/-! loudest -/
def ldB (E : sE) (p k n : Nat) : Bool := (sN (fun j => hrE E j p (E.2.2.2 0 + n)) (E.1 9 0)).2.2 == k + 1
theorem ldB_iff {E : sE} {p k n : Nat} (hk : k < E.1 9 0) : ldB E p k n = true ↔ 0 < hrE E k p (E.2.2.2 0 + n) ∧ (∀ o, o < E.1 9 0 → hrE E o p (E.2.2.2 0 + n) ≤ hrE E k p (E.2.2.2 0 + n)) ∧ (∀ o, o < k → hrE E o p (E.2.2.2 0 + n) < hrE E k p (E.2.2.2 0 + n)) := by
  unfold ldB
  rw [beq_iff_eq]
  rcases sN_3 (f := fun j => hrE E j p (E.2.2.2 0 + n)) (E.1 9 0) with ⟨h1, h2⟩ | ⟨j, h1, h2, h3, h4, h5, h6⟩
  · rw [h1]
    refine ⟨fun h => by omega, fun h => ?_⟩
    have : hrE E k p (E.2.2.2 0 + n) = 0 := h2 k hk
    omega
  · rw [h1]
    have h4 : 0 < hrE E j p (E.2.2.2 0 + n) := h4
    have h5 : ∀ o, o < E.1 9 0 → hrE E o p (E.2.2.2 0 + n) ≤ hrE E j p (E.2.2.2 0 + n) := h5
    have h6 : ∀ o, o < j → hrE E o p (E.2.2.2 0 + n) < hrE E j p (E.2.2.2 0 + n) := h6
    constructor
    · intro h
      have : j = k := by omega
      subst this
      exact ⟨h4, h5, h6⟩
    · rintro ⟨g1, g2, g3⟩
      rcases Nat.lt_trichotomy j k with h | h | h
      · have := g3 j h
        have := h5 k hk
        omega
      · rw [h]
      · have := h6 k h
        have := g2 j h2
        omega
theorem isLoudestM {lv : Nat} {E : sE} {S : qv_St} {k p n : Nat} (h : HM lv E S) (hv : vE E) (hk : k < E.1 9 0) (hp : p < E.1 9 1) (hn : n < 10000) : okk (fX12_isLoudest S (nI k) (nI p) (nI (E.2.2.2 0 + n))) (fun z => z.2 = (if ldB E p k n = true then 1 else 0) ∧ frB S z.1) := by
  unfold fX12_isLoudest
  have hN5 := qN
  generalize qv_N = N at hN5 ⊢
  simp only [qj_e]
  have h8 := hv.1.1
  have h0 := hv.2.2 0 (by decide)
  refine ok_cm (heardM h hv hk hp (by omega)) ?_
  rintro S1 r ⟨hr, hf1⟩
  have hr : r = nI (hrE E k p (E.2.2.2 0 + n)) := hr
  have hf1 : frB S S1 := hf1
  subst hr
  have hm : hrE E k p (E.2.2.2 0 + n) ≤ 99 := hrE_le
  have hiff := ldB_iff (p := p) (n := n) hk
  refine ok_if (fun g => ok_s ⟨?_, hf1⟩) (fun g => ?_)
  · have g : hrE E k p (E.2.2.2 0 + n) = 0 := (nI_eq (by omega) (by decide)).mp g
    rw [if_neg (fun z => by have := (hiff.mp z).1; omega)]
  · have g : 0 < hrE E k p (E.2.2.2 0 + n) := by
      rcases Nat.eq_zero_or_pos (hrE E k p (E.2.2.2 0 + n)) with z | z
      · exact absurd (by rw [z]; rfl) g
      · exact z
    refine ok_lp2 (fun m T x => ∃ i, m = E.1 9 0 - i ∧ i ≤ E.1 9 0 ∧ x = nI i ∧ (∀ o, o < i → hrE E o p (E.2.2.2 0 + n) ≤ hrE E k p (E.2.2.2 0 + n) ∧ (o < k → hrE E o p (E.2.2.2 0 + n) < hrE E k p (E.2.2.2 0 + n))) ∧ frB S T) ?_ N (E.1 9 0) S1 0 ⟨0, rfl, by omega, rfl, fun o ho => by omega, hf1⟩ (by omega)
    rintro self m T x ⟨i, rfl, hi, rfl, ho, hf⟩ ih
    have hT := HM_fr h hf
    obtain ⟨a0, a1, a2, ax⟩ := hT.1
    refine ok_ck lv a1 (by omega) (by decide) ?_
    rw [a1, qi_cl (by omega), a2]
    by_cases e : i = E.1 9 0
    · refine ok_pos (by rw [e]; exact Int32.le_refl _) (ok_s ⟨?_, hf⟩)
      rw [if_pos]
      rw [hiff]
      exact ⟨g, fun o h => (ho o (by omega)).1, fun o h => (ho o (by omega)).2 h⟩
    · refine ok_neg (nI_ge (by omega) (by omega)) ?_
      rw [nI_1]
      have key : ∀ (U : qv_St) (v : Nat), frB S U → v ≤ 99 → ((i = k ∧ v = 0) ∨ (i ≠ k ∧ v = hrE E i p (E.2.2.2 0 + n))) → okk (if nI (hrE E k p (E.2.2.2 0 + n)) < nI v then some (U, 0) else if nI v = nI (hrE E k p (E.2.2.2 0 + n)) then (if nI k ≤ nI i then self U (nI (i + 1)) else some (U, 0)) else self U (nI (i + 1))) (fun z => z.2 = (if ldB E p k n = true then 1 else 0) ∧ frB S z.1) := by
        intro U v hfU hv9 hvv
        have go : (hrE E i p (E.2.2.2 0 + n) ≤ hrE E k p (E.2.2.2 0 + n) ∧ (i < k → hrE E i p (E.2.2.2 0 + n) < hrE E k p (E.2.2.2 0 + n))) → okk (self U (nI (i + 1))) (fun z => z.2 = (if ldB E p k n = true then 1 else 0) ∧ frB S z.1) := by
          intro hgo
          refine ih (E.1 9 0 - (i + 1)) _ _ (by omega) ⟨i + 1, rfl, by omega, rfl, fun o h => ?_, hfU⟩
          by_cases e2 : o = i
          · subst e2; exact hgo
          · exact ho o (by omega)
        have hii : i < E.1 9 0 := by omega
        refine ok_if (fun g1 => ok_s ⟨?_, hfU⟩) (fun g1 => ok_if (fun g2 => ok_if (fun g3 => go ?_) (fun g3 => ok_s ⟨?_, hfU⟩)) (fun g2 => go ?_))
        · have g1 := (nI_ltI (by omega) (by omega)).mp g1
          rw [if_neg]
          intro z
          have := (hiff.mp z).2.1 i hii
          rcases hvv with ⟨_, h⟩ | ⟨_, h⟩ <;> omega
        · have g2 := (nI_eq (by omega) (by omega)).mp g2
          have g3 := (nI_leI (by omega) (by omega)).mp g3
          rcases hvv with ⟨_, h⟩ | ⟨_, h⟩ <;> omega
        · have g2 := (nI_eq (by omega) (by omega)).mp g2
          have g3 : ¬ k ≤ i := fun z => g3 (nI_le z (by omega))
          rw [if_neg]
          intro z
          have := (hiff.mp z).2.2 i (by omega)
          rcases hvv with ⟨_, h⟩ | ⟨_, h⟩ <;> omega
        · have g1 : ¬ hrE E k p (E.2.2.2 0 + n) < v := fun z => g1 (nI_lt z (by omega))
          have g2 : ¬ v = hrE E k p (E.2.2.2 0 + n) := fun z => g2 (by rw [z])
          rcases hvv with ⟨h3, h⟩ | ⟨h3, h⟩
          · rw [h3]; exact ⟨Nat.le_refl _, fun z => absurd z (Nat.lt_irrefl _)⟩
          · omega
      refine ok_if (fun g1 => ?_) (fun g1 => ?_)
      · have g1 := (nI_eq (by omega) (by omega)).mp g1
        exact key T 0 hf (by decide) (Or.inl ⟨g1, rfl⟩)
      · have g1 : i ≠ k := fun z => g1 (by rw [z])
        refine ok_cm (heardM hT hv (k := i) (by omega) hp (by omega)) ?_
        rintro S4 r ⟨hr, hf4⟩
        have hr : r = _ := hr
        have hf4 : frB T S4 := hf4
        subst hr
        exact key S4 _ (frB_tr hf hf4) hrE_le (Or.inr ⟨g1, rfl⟩)
theorem call_loudest {E : sE} {lv : Nat} {S1 S2 : qv_St} (h1 : qC E S1) (h2 : qM lv E S2) (a b : Int32) : ask2 E S1 S2 (fX11_loudest S1 a b) (fX12_loudest S2 a b) := by
  unfold fX11_loudest fX12_loudest
  have hN5 := qN
  generalize qv_N = N at hN5 ⊢
  simp only [qj_e]
  rcases noI (x := a) h1 h2 with ⟨e1, e2⟩ | ⟨k, hk, rfl, e1, e2⟩
  · rw [e1, e2, b0, b0, if_pos rfl, if_pos rfl]; exact ask2_no h1
  rw [e1, e2, b1, b1, if_neg n10, if_neg n10]
  rcases plI (x := b) h1 h2 with ⟨e1, e2⟩ | ⟨p, hp, rfl, e1, e2⟩
  · rw [e1, e2, b0, b0, if_pos rfl, if_pos rfl]; exact ask2_no h1
  rw [e1, e2, b1, b1, if_neg n10, if_neg n10]
  have hv := h1.1
  have h8 := hv.1.1
  have h0 := hv.2.2 0 (by decide)
  refine ask2_mk (nI (cn (ldB E p k) 300)) ?_ ?_
  · refine ok_bd (faceQ h1 hp) ?_
    rintro T ⟨hT, hf⟩
    refine ok_lp3 (fun m U x3 x4 => ∃ i, m = 300 - i ∧ i ≤ 300 ∧ x4 = nI i ∧ x3 = nI (cn (ldB E p k) i) ∧ SV E p U ∧ frD T U) ?_ N 300 T 0 0 ⟨0, rfl, by omega, rfl, rfl, hT, frD_rf⟩ (by omega)
    rintro self m U x3 x4 ⟨i, rfl, hi, rfl, rfl, hU, hfU⟩ ih
    by_cases e : i = 300
    · subst e
      exact ok_pos (by decide) (ok_s ⟨rfl, qC_SV hU, frE_tr hf (frE_D hfU)⟩)
    · refine ok_neg (show ¬ (300 : Int32) ≤ nI i from nI_ge (b := 300) (by omega) (by decide)) ?_
      refine ok_cm (soundC hU (n := i) (by omega)) ?_
      rintro S3 r ⟨hr, hS3, hf3⟩
      have hr : r = _ := hr
      have hS3 : SV E p S3 := hS3
      have hf3 : frD U S3 := hf3
      subst hr
      obtain ⟨q1, q2, q3⟩ := sdE_b hv (p := p) (n := i)
      unfold sdE
      rw [nw_lead q1 q2 q3 sdE_b1, Option.bind_some, nI_1, nI_1]
      refine ok_if (fun g => ?_) (fun g => ?_)
      · have g := (lead_eq q3 (by omega)).mp g.symm
        exact ih (300 - (i + 1)) _ _ _ (by omega) ⟨i + 1, rfl, by omega, rfl, by rw [cn, if_pos (by unfold ldB; rw [beq_iff_eq]; exact g)], hS3, frD_tr hfU hf3⟩
      · refine ih (300 - (i + 1)) _ _ _ (by omega) ⟨i + 1, rfl, by omega, rfl, ?_, hS3, frD_tr hfU hf3⟩
        rw [cn, if_neg (fun z => g ((lead_eq q3 (by omega)).mpr (by unfold ldB at z; rw [beq_iff_eq] at z; exact z)).symm)]
        rfl
  · refine ok_bd (copiesQ h2) ?_
    rintro T ⟨hT, hf⟩
    refine ok_lp3 (fun m U x3 x4 => ∃ i, m = 300 - i ∧ i ≤ 300 ∧ x4 = nI i ∧ x3 = nI (cn (ldB E p k) i) ∧ frB T U) ?_ N 300 T 0 0 ⟨0, rfl, by omega, rfl, rfl, frB_rf⟩ (by omega)
    rintro self m U x3 x4 ⟨i, rfl, hi, rfl, rfl, hfU⟩ ih
    by_cases e : i = 300
    · subst e
      exact ok_pos (by decide) (ok_s ⟨rfl, frQ_tr hf (frQ_B hfU)⟩)
    · have hU := HM_fr hT hfU
      refine ok_neg (show ¬ (300 : Int32) ≤ nI i from nI_ge (b := 300) (by omega) (by decide)) (ok_ck 0 rfl (by decide) (by decide) ?_)
      rw [tc0, hU.2.1 0 (by decide), nI_add]
      refine ok_cm (isLoudestM hU hv hk hp (n := i) (by omega)) ?_
      rintro S3 r ⟨hr, hf3⟩
      have hr : r = _ := hr
      have hf3 : frB U S3 := hf3
      subst hr
      rw [nI_1, nI_1]
      cases hb : ldB E p k i with
      | false => exact ok_pos rfl (ih (300 - (i + 1)) _ _ _ (by omega) ⟨i + 1, rfl, by omega, rfl, by rw [cn, hb]; rfl, frB_tr hfU hf3⟩)
      | true => exact ok_neg (by decide) (ih (300 - (i + 1)) _ _ _ (by omega) ⟨i + 1, rfl, by omega, rfl, by rw [cn, hb]; rfl, frB_tr hfU hf3⟩)
theorem call_ours {E : sE} {lv : Nat} {S1 S2 : qv_St} (h1 : qC E S1) (h2 : qM lv E S2) (a : Int32) : ask2 E S1 S2 (fX11_ours S1 a) (fX12_ours S2 a) := by
  unfold fX11_ours fX12_ours
  have hN5 := qN
  generalize qv_N = N at hN5 ⊢
  simp only [qj_e]
  rcases plI (x := a) h1 h2 with ⟨e1, e2⟩ | ⟨p, hp, rfl, e1, e2⟩
  · rw [e1, e2, b0, b0, if_pos rfl, if_pos rfl]; exact ask2_no h1
  rw [e1, e2, b1, b1, if_neg n10, if_neg n10]
  have hv := h1.1
  have h0 := hv.2.2 0 (by decide)
  refine ask2_mk (nI (cn (fun n => decide (moE E p (E.2.2.2 0 + n) < ruE E n)) 300)) ?_ ?_
  · refine ok_bd (faceQ h1 hp) ?_
    rintro T ⟨hT, hf⟩
    refine ok_lp3 (fun m U x3 x4 => ∃ i, m = 300 - i ∧ i ≤ 300 ∧ x4 = nI i ∧ x3 = nI (cn (fun n => decide (moE E p (E.2.2.2 0 + n) < ruE E n)) i) ∧ SV E p U ∧ frD T U) ?_ N 300 T 0 0 ⟨0, rfl, by omega, rfl, rfl, hT, frD_rf⟩ (by omega)
    rintro self m U x3 x4 ⟨i, rfl, hi, rfl, rfl, hU, hfU⟩ ih
    by_cases e : i = 300
    · subst e
      exact ok_pos (by decide) (ok_s ⟨rfl, qC_SV hU, frE_tr hf (frE_D hfU)⟩)
    · refine ok_neg (show ¬ (300 : Int32) ≤ nI i from nI_ge (b := 300) (by omega) (by decide)) ?_
      refine ok_cm (soundC hU (n := i) (by omega)) ?_
      rintro S3 r ⟨hr, hS3, hf3⟩
      have hr : r = _ := hr
      have hS3 : SV E p S3 := hS3
      have hf3 : frD U S3 := hf3
      subst hr
      obtain ⟨q1, q2, q3⟩ := sdE_b hv (p := p) (n := i)
      have r1 : ruE E i ≤ 50 := ruE_le
      have r2 : moE E p (E.2.2.2 0 + i) ≤ 99 := moE_le
      unfold sdE
      rw [nw_rust q1 q2 q3 sdE_b1, Option.bind_some, nw_top q1 q2 q3 sdE_b1, Option.bind_some, nI_1, nI_1, ru_50, sN_1]
      show okk (if nI (ruE E i) ≤ nI (moE E p (E.2.2.2 0 + i)) then _ else _) _
      refine ok_if (fun g => ?_) (fun g => ?_)
      · have g := (nI_leI (by omega) (by omega)).mp g
        refine ih (300 - (i + 1)) _ _ _ (by omega) ⟨i + 1, rfl, by omega, rfl, ?_, hS3, frD_tr hfU hf3⟩
        rw [cn, if_neg (by rw [decide_eq_true_iff]; omega)]
        rfl
      · have g : ¬ ruE E i ≤ moE E p (E.2.2.2 0 + i) := fun z => g (nI_le z (by omega))
        refine ih (300 - (i + 1)) _ _ _ (by omega) ⟨i + 1, rfl, by omega, rfl, ?_, hS3, frD_tr hfU hf3⟩
        rw [cn, if_pos (by rw [decide_eq_true_iff]; omega)]
  · refine ok_bd (copiesQ h2) ?_
    rintro T ⟨hT, hf⟩
    refine ok_lp3 (fun m U x3 x4 => ∃ i, m = 300 - i ∧ i ≤ 300 ∧ x4 = nI i ∧ x3 = nI (cn (fun n => decide (moE E p (E.2.2.2 0 + n) < ruE E n)) i) ∧ frB T U) ?_ N 300 T 0 0 ⟨0, rfl, by omega, rfl, rfl, frB_rf⟩ (by omega)
    rintro self m U x3 x4 ⟨i, rfl, hi, rfl, rfl, hfU⟩ ih
    by_cases e : i = 300
    · subst e
      exact ok_pos (by decide) (ok_s ⟨rfl, frQ_tr hf (frQ_B hfU)⟩)
    · have hU := HM_fr hT hfU
      refine ok_neg (show ¬ (300 : Int32) ≤ nI i from nI_ge (b := 300) (by omega) (by decide)) (ok_ck 0 rfl (by decide) (by decide) ?_)
      rw [tc0, hU.2.1 0 (by decide), nI_add]
      refine ok_cm (rustM hU hv (n := i) (by omega)) ?_
      rintro S3 r ⟨hr, hf3⟩
      have hr : r = _ := hr
      have hf3 : frB U S3 := hf3
      subst hr
      have hU3 := HM_fr hU hf3
      refine ok_ck 0 rfl (by decide) (by decide) ?_
      rw [hU3.2.1 0 (by decide), nI_add]
      refine ok_cm (mostM hU3 hv hp (by omega)) ?_
      rintro S4 r ⟨hr, hf4⟩
      have hr : r = _ := hr
      have hf4 : frB S3 S4 := hf4
      subst hr
      have r1 : ruE E i ≤ 50 := ruE_le
      have r2 : moE E p (E.2.2.2 0 + i) ≤ 99 := moE_le
      have hfr := frB_tr hfU (frB_tr hf3 hf4)
      rw [nI_1, nI_1]
      refine ok_if (fun g => ?_) (fun g => ?_)
      · have g := (nI_leI (by omega) (by omega)).mp g
        refine ih (300 - (i + 1)) _ _ _ (by omega) ⟨i + 1, rfl, by omega, rfl, ?_, hfr⟩
        rw [cn, if_neg (by rw [decide_eq_true_iff]; omega)]
        rfl
      · have g : ¬ ruE E i ≤ moE E p (E.2.2.2 0 + i) := fun z => g (nI_le z (by omega))
        refine ih (300 - (i + 1)) _ _ _ (by omega) ⟨i + 1, rfl, by omega, rfl, ?_, hfr⟩
        rw [cn, if_pos (by rw [decide_eq_true_iff]; omega)]
/-! peak -/
def ax (f : Nat → Nat) : Nat → Nat
  | 0 => 0
  | n + 1 => if f (ax f n) < f (n + 1) then n + 1 else ax f n
theorem ax_spec {f : Nat → Nat} : ∀ n, ax f n ≤ n ∧ (∀ k, k ≤ n → f k ≤ f (ax f n)) ∧ (∀ k, k < ax f n → f k < f (ax f n))
  | 0 => ⟨Nat.le_refl _, fun k hk => by rw [Nat.le_zero.mp hk]; exact Nat.le_refl _, fun k hk => absurd hk (Nat.not_lt_zero _)⟩
  | n + 1 => by
    obtain ⟨h1, h2, h3⟩ := ax_spec (f := f) n
    rw [ax]
    by_cases h : f (ax f n) < f (n + 1)
    · rw [if_pos h]
      refine ⟨Nat.le_refl _, fun k hk => ?_, fun k hk => ?_⟩
      · by_cases e : k = n + 1
        · rw [e]; exact Nat.le_refl _
        · have := h2 k (by omega); omega
      · have := h2 k (by omega); omega
    · rw [if_neg h]
      refine ⟨by omega, fun k hk => ?_, h3⟩
      by_cases e : k = n + 1
      · rw [e]; omega
      · exact h2 k (by omega)
theorem ax_mx {f : Nat → Nat} {n : Nat} : mxN f (n + 1) = f (ax f n) := by
  obtain ⟨h1, h2, h3⟩ := ax_spec (f := f) n
  apply Nat.le_antisymm
  · exact mxN_le _ (fun k hk => h2 k (by omega))
  · exact le_mxN _ _ (by omega)
theorem call_peak {E : sE} {lv : Nat} {S1 S2 : qv_St} (h1 : qC E S1) (h2 : qM lv E S2) (a b : Int32) : ask2 E S1 S2 (fX11_peak S1 a b) (fX12_peak S2 a b) := by
  unfold fX11_peak fX12_peak
  have hN5 := qN
  generalize qv_N = N at hN5 ⊢
  simp only [qj_e]
  rcases plI (x := a) h1 h2 with ⟨e1, e2⟩ | ⟨p, hp, rfl, e1, e2⟩
  · rw [e1, e2, b0, b0, if_pos rfl, if_pos rfl]; exact ask2_no h1
  rw [e1, e2, b1, b1, if_neg n10, if_neg n10]
  rcases rgI b 0 1 0 1 rfl rfl (by decide) (by decide) with ⟨e1, e2⟩ | ⟨w, _, hw, rfl, e1, e2⟩
  · rw [e1, e2, b0, b0, if_pos rfl, if_pos rfl]; exact ask2_no h1
  rw [e1, e2, b1, b1, if_neg n10, if_neg n10]
  have hv := h1.1
  have h0 := hv.2.2 0 (by decide)
  obtain ⟨x1, x2, x3⟩ := ax_spec (f := fun k => loE E p (0 + k)) 299
  have xm := ax_mx (f := fun k => loE E p (0 + k)) (n := 299)
  generalize hA : ax (fun k => loE E p (0 + k)) 299 = A at x1 x2 x3 xm
  have x2 : ∀ k, k ≤ 299 → loE E p k ≤ loE E p A := fun k hk => by have := x2 k hk; simpa using this
  have x3 : ∀ k, k < A → loE E p k < loE E p A := fun k hk => by have := x3 k hk; simpa using this
  have xm : mxN (fun k => loE E p (0 + k)) 300 = loE E p A := by rw [xm]; simp
  have hAl : loE E p A ≤ 99 := loE_le
  refine ask2_mk (if nI w = 0 then nI (loE E p A) else nI A) ?_ ?_
  · refine ok_bd (faceQ h1 hp) ?_
    rintro T ⟨hT, hf⟩
    refine ok_cm (greatC hT (o := 0) (n := 300) (en := 99) (by decide) (by decide)) ?_
    rintro S4 r ⟨⟨g, hr, hgl, hg2⟩, hS4, hf4⟩
    have hr : r = nI g := hr
    have hS4 : SV E p S4 := hS4
    have hf4 : frD T S4 := hf4
    subst hr
    rw [xm] at hgl hg2
    have hge : g = loE E p A := by omega
    subst hge
    refine ok_lp2 (fun m U x4 => ∃ i, m = 300 - i ∧ i ≤ A ∧ x4 = nI i ∧ SV E p U ∧ frD T U) ?_ N 300 S4 0 ⟨0, rfl, by omega, rfl, hS4, hf4⟩ (by omega)
    rintro self m U x4 ⟨i, rfl, hi, rfl, hU, hfU⟩ ih
    refine ok_neg (show ¬ (300 : Int32) ≤ nI i from nI_ge (b := 300) (by omega) (by decide)) ?_
    refine ok_cm (noiseC hU (n := i) (by omega)) ?_
    rintro S5 r ⟨hr, hS5, hf5⟩
    have hr : r = _ := hr
    have hS5 : SV E p S5 := hS5
    have hf5 : frD U S5 := hf5
    subst hr
    have hlo : loE E p i ≤ 99 := loE_le
    rw [nI_1]
    refine ok_if (fun g => ?_) (fun g => ?_)
    · have g := (nI_leI (by omega) (by omega)).mp g
      have : i = A := by
        rcases Nat.lt_or_ge i A with z | z
        · have := x3 i z; omega
        · omega
      subst this
      refine ok_if (fun g => ok_s ⟨?_, qC_SV hS5, frE_tr hf (frE_D (frD_tr hfU hf5))⟩) (fun g => ok_s ⟨?_, qC_SV hS5, frE_tr hf (frE_D (frD_tr hfU hf5))⟩)
      · rw [if_pos g]
      · rw [if_neg g]
    · have g : ¬ loE E p A ≤ loE E p i := fun z => g (nI_le z (by omega))
      have : i ≠ A := fun z => g (by rw [z]; exact Nat.le_refl _)
      exact ih (300 - (i + 1)) _ _ (by omega) ⟨i + 1, rfl, by omega, rfl, hS5, frD_tr hfU hf5⟩
  · refine ok_bd (copiesQ h2) ?_
    rintro T ⟨hT, hf⟩
    refine ok_bd (fillsM hT h2.1 hp (m := 300) (by decide)) ?_
    rintro U ⟨hU, hfU⟩
    have hfr := frQ_tr hf (frQ_L hfU)
    refine ok_lp2 (fun m x4 x => ∃ i, m = 299 - i ∧ i ≤ 299 ∧ x = nI (i + 1) ∧ x4 = nI (ax (fun k => loE E p (0 + k)) i)) ?_ N 299 0 1 ⟨0, rfl, by omega, rfl, rfl⟩ (by omega)
    rintro self m x4 x ⟨i, rfl, hi, rfl, rfl⟩ ih
    have hal := (ax_spec (f := fun k => loE E p (0 + k)) i).1
    rw [qi_cl (show ax (fun k => loE E p (0 + k)) i < 2 ^ 31 by omega), hU _ (show ax (fun k => loE E p (0 + k)) i < 300 by omega)]
    by_cases e : i = 299
    · subst e
      rw [hA]
      refine ok_pos (by decide) (ok_if (fun g => ok_ck A rfl (by omega) (by decide) (ok_s ⟨?_, hfr⟩)) (fun g => ok_s ⟨?_, hfr⟩))
      · rw [if_pos g]
      · rw [if_neg g]
    · refine ok_neg (show ¬ (300 : Int32) ≤ nI (i + 1) from nI_ge (b := 300) (by omega) (by decide)) (ok_ck (i + 1) rfl (by omega) (by decide) (ok_ck _ rfl (by omega) (by decide) ?_))
      rw [qi_cl (by omega), hU (i + 1) (by omega), nI_1]
      have w1 : loE E p (i + 1) ≤ 99 := loE_le
      have w2 : loE E p (ax (fun k => loE E p (0 + k)) i) ≤ 99 := loE_le
      refine ok_if (fun g => ?_) (fun g => ?_)
      · have g := (nI_leI (by omega) (by omega)).mp g
        refine ih (299 - (i + 1)) _ _ (by omega) ⟨i + 1, rfl, by omega, rfl, ?_⟩
        rw [ax, if_neg (by simp only [Nat.zero_add] at g ⊢; omega)]
      · have g : ¬ loE E p (i + 1) ≤ loE E p (ax (fun k => loE E p (0 + k)) i) := fun z => g (nI_le z (by omega))
        refine ih (299 - (i + 1)) _ _ (by omega) ⟨i + 1, rfl, by omega, rfl, ?_⟩
        rw [ax, if_pos (by simp only [Nat.zero_add] at g ⊢; omega)]
theorem call_calmest {E : sE} {lv : Nat} {S1 S2 : qv_St} (h1 : qC E S1) (h2 : qM lv E S2) (a : Int32) : ask2 E S1 S2 (fX11_calmest S1 a) (fX12_calmest S2 a) := by
  unfold fX11_calmest fX12_calmest
  have hN5 := qN
  generalize qv_N = N at hN5 ⊢
  simp only [qj_e]
  rcases rgI a 1 300 1 300 rfl rfl (by decide) (by decide) with ⟨e1, e2⟩ | ⟨n, hn0, hn, rfl, e1, e2⟩
  · rw [e1, e2, b0, b0, if_pos rfl, if_pos rfl]; exact ask2_no h1
  rw [e1, e2, b1, b1, if_neg n10, if_neg n10]
  have hv := h1.1
  have h4 := hv.1.2.1
  have hg : ∀ p, mxN (fun k => loE E p (0 + k)) n ≤ 99 := fun f => mxN_le _ (fun _ _ => loE_le)
  have hal := am_le (g := fun p => mxN (fun k => loE E p (0 + k)) n)
  refine ask2_mk (if E.1 9 1 = 0 then -2 else nI (am (fun p => mxN (fun k => loE E p (0 + k)) n) (E.1 9 1 - 1))) ?_ ?_
  · refine ok_lp4 (fun m U x2 x3 x4 => ∃ i, m = E.1 9 1 - i ∧ i ≤ E.1 9 1 ∧ x4 = nI i ∧ ((i = 0 ∧ x2 = -2 ∧ x3 = nI 100) ∨ (0 < i ∧ x2 = nI (am (fun p => mxN (fun k => loE E p (0 + k)) n) (i - 1)) ∧ x3 = nI (mxN (fun k => loE E (am (fun p => mxN (fun k => loE E p (0 + k)) n) (i - 1)) (0 + k)) n))) ∧ qC E U ∧ frE S1 U) ?_ N (E.1 9 1) S1 (-2) 100 0 ⟨0, rfl, by omega, rfl, Or.inl ⟨rfl, rfl, rfl⟩, h1, frE_rf⟩ (by omega)
    rintro self m U x2 x3 x4 ⟨i, rfl, hi, rfl, hx, hU, hfU⟩ ih
    rw [hU.2.1.1.2.1]
    by_cases e : i = E.1 9 1
    · refine ok_pos (by rw [e]; exact Int32.le_refl _) (ok_s ⟨?_, hU, hfU⟩)
      rcases hx with ⟨h0, hx2, _⟩ | ⟨h0, hx2, _⟩
      · rw [if_pos (by omega)]; exact hx2
      · rw [if_neg (by omega), ← e]; exact hx2
    · refine ok_neg (nI_ge (by omega) (by omega)) (ok_bd (faceQ hU (p := i) (by omega)) ?_)
      rintro V ⟨hV, hfV⟩
      obtain ⟨en, hen, rfl⟩ : ∃ en, en ≤ 100 ∧ x3 = nI en := by
        rcases hx with ⟨_, _, h⟩ | ⟨_, _, h⟩
        · exact ⟨100, Nat.le_refl _, h⟩
        · exact ⟨_, Nat.le_trans (hg _) (by decide), h⟩
      refine ok_cm (greatC hV (o := 0) (n := n) (by omega) hen) ?_
      rintro S4 r ⟨⟨g, hr, hgl, hg2⟩, hS4, hf4⟩
      have hr : r = nI g := hr
      have hS4 : SV E i S4 := hS4
      have hf4 : frD V S4 := hf4
      subst hr
      have hgi := hg i
      have hfr := frE_tr hfU (frE_tr hfV (frE_D hf4))
      have hlt1 : E.1 9 1 - (i + 1) < E.1 9 1 - i := by omega
      have hle1 : i + 1 ≤ E.1 9 1 := by omega
      rw [nI_1]
      refine ok_if (fun g3 => ?_) (fun g3 => ?_)
      · have g3 := (nI_leI (by omega) (by omega)).mp g3
        refine ih (E.1 9 1 - (i + 1)) _ _ _ _ hlt1 ⟨i + 1, rfl, hle1, rfl, Or.inr ⟨Nat.succ_pos _, ?_⟩, qC_SV hS4, hfr⟩
        rcases hx with ⟨h0, hx2, hx3⟩ | ⟨h0, hx2, hx3⟩
        · have hx3 := (nI_eq (by omega) (by decide)).mp hx3
          omega
        · obtain ⟨j, rfl⟩ : ∃ j, i = j + 1 := ⟨i - 1, by omega⟩
          simp only [Nat.add_sub_cancel] at hx2 hx3 ⊢
          have hx4 := (nI_eq (by omega) (by have := hg (am (fun p => mxN (fun k => loE E p (0 + k)) n) j); omega)).mp hx3
          rw [am, if_neg (by omega)]
          exact ⟨hx2, hx3⟩
      · have g3 : ¬ en ≤ g := fun z => g3 (nI_le z (by omega))
        have hge : g = mxN (fun k => loE E i (0 + k)) n := by omega
        refine ih (E.1 9 1 - (i + 1)) _ _ _ _ hlt1 ⟨i + 1, rfl, hle1, rfl, Or.inr ⟨Nat.succ_pos _, ?_⟩, qC_SV hS4, hfr⟩
        rcases hx with ⟨h0, hx2, hx3⟩ | ⟨h0, hx2, hx3⟩
        · subst h0
          rw [hge]
          exact ⟨rfl, rfl⟩
        · obtain ⟨j, rfl⟩ : ∃ j, i = j + 1 := ⟨i - 1, by omega⟩
          simp only [Nat.add_sub_cancel] at hx2 hx3 ⊢
          have hx4 := (nI_eq (by omega) (by have := hg (am (fun p => mxN (fun k => loE E p (0 + k)) n) j); omega)).mp hx3
          rw [am, if_pos (by omega), hge]
          exact ⟨rfl, rfl⟩
  · refine ok_bd (copiesQ h2) ?_
    rintro T ⟨hT, hf⟩
    refine ok_lp4 (fun m U x2 x3 x4 => ∃ i, m = E.1 9 1 - i ∧ i ≤ E.1 9 1 ∧ x4 = nI i ∧ ((i = 0 ∧ x2 = -2) ∨ (0 < i ∧ x2 = nI (am (fun p => mxN (fun k => loE E p (0 + k)) n) (i - 1)) ∧ x3 = nI (mxN (fun k => loE E (am (fun p => mxN (fun k => loE E p (0 + k)) n) (i - 1)) (0 + k)) n))) ∧ frL T U) ?_ N (E.1 9 1) T (-2) 0 0 ⟨0, rfl, by omega, rfl, Or.inl ⟨rfl, rfl⟩, frL_rf⟩ (by omega)
    rintro self m U x2 x3 x4 ⟨i, rfl, hi, rfl, hx, hfU⟩ ih
    have hU := HM_frL hT hfU
    obtain ⟨a0, a1, a2, a3, ax4⟩ := hU.1
    refine ok_ck lv a1 (by omega) (by decide) ?_
    rw [a1, qi_cl (by omega), a3]
    by_cases e : i = E.1 9 1
    · refine ok_pos (by rw [e]; exact Int32.le_refl _) (ok_s ⟨?_, frQ_tr hf (frQ_L hfU)⟩)
      rcases hx with ⟨h0, hx2⟩ | ⟨h0, hx2, _⟩
      · rw [if_pos (by omega)]; exact hx2
      · rw [if_neg (by omega), ← e]; exact hx2
    · refine ok_neg (nI_ge (by omega) (by omega)) (ok_bd (fillsM hU hv (p := i) (by omega) (m := n) (by omega)) ?_)
      rintro V ⟨hV, hfV⟩
      have hmi := mostInM hV (f := 0) (n := n) (by omega) (by omega)
      rw [show nI 0 = 0 from rfl] at hmi
      rw [hmi, Option.bind_some, nI_1]
      have hgi := hg i
      have hfr := frL_tr hfU hfV
      have hlt1 : E.1 9 1 - (i + 1) < E.1 9 1 - i := by omega
      have hle1 : i + 1 ≤ E.1 9 1 := by omega
      rcases hx with ⟨h0, hx2⟩ | ⟨h0, hx2, hx3⟩
      · subst h0
        subst hx2
        exact ok_pos (by decide) (ih (E.1 9 1 - (0 + 1)) _ _ _ _ hlt1 ⟨0 + 1, rfl, hle1, rfl, Or.inr ⟨Nat.succ_pos _, rfl, rfl⟩, hfr⟩)
      · obtain ⟨j, rfl⟩ : ∃ j, i = j + 1 := ⟨i - 1, by omega⟩
        simp only [Nat.add_sub_cancel] at hx2 hx3
        have hgj := hg (am (fun p => mxN (fun k => loE E p (0 + k)) n) j)
        have halj := hal j
        refine ok_neg (by rw [hx2]; exact nI_pos (by omega)) ?_
        subst hx3
        refine ok_if (fun g3 => ?_) (fun g3 => ?_)
        · have g3 := (nI_ltI (by omega) (by omega)).mp g3
          refine ih (E.1 9 1 - (j + 1 + 1)) _ _ _ _ hlt1 ⟨j + 1 + 1, rfl, hle1, rfl, Or.inr ⟨Nat.succ_pos _, ?_⟩, hfr⟩
          simp only [Nat.add_sub_cancel]
          rw [am, if_pos g3]
          exact ⟨rfl, rfl⟩
        · have g3 : ¬ _ < _ := fun z => g3 (nI_lt z (by omega))
          refine ih (E.1 9 1 - (j + 1 + 1)) _ _ _ _ hlt1 ⟨j + 1 + 1, rfl, hle1, rfl, Or.inr ⟨Nat.succ_pos _, ?_⟩, hfr⟩
          simp only [Nat.add_sub_cancel]
          rw [am, if_neg g3]
          exact ⟨hx2, rfl⟩
