/-! holes, softest, next, loudest, peak, calmest, ours -/
def qt (P : Nat → Bool) : Nat → Nat
  | 0 => 0
  | o + 1 => if P o = true then qt P o + 1 else 0
theorem qt_iff {P : Nat → Bool} : ∀ (o n : Nat), n ≤ qt P o ↔ n ≤ o ∧ ∀ k, k < n → P (o - n + k) = true
  | 0, n => by
    rw [qt]
    exact ⟨fun h => ⟨h, fun k hk => by omega⟩, fun h => h.1⟩
  | o + 1, n => by
    rw [qt]
    by_cases hP : P o = true
    · rw [if_pos hP]
      cases n with
      | zero => exact ⟨fun _ => ⟨by omega, fun k hk => by omega⟩, fun _ => by omega⟩
      | succ n =>
        rw [Nat.add_le_add_iff_right, qt_iff o n, Nat.add_le_add_iff_right]
        constructor
        · rintro ⟨h1, h2⟩
          refine ⟨h1, fun k hk => ?_⟩
          by_cases e : k = n
          · rw [show o + 1 - (n + 1) + k = o by omega]; exact hP
          · rw [show o + 1 - (n + 1) + k = o - n + k by omega]; exact h2 k (by omega)
        · rintro ⟨h1, h2⟩
          refine ⟨h1, fun k hk => ?_⟩
          have := h2 k (by omega)
          rw [show o + 1 - (n + 1) + k = o - n + k by omega] at this
          exact this
    · rw [if_neg hP]
      constructor
      · intro h
        have : n = 0 := by omega
        subst this
        exact ⟨by omega, fun k hk => by omega⟩
      · rintro ⟨h1, h2⟩
        cases n with
        | zero => omega
        | succ n =>
          have := h2 n (by omega)
          rw [show o + 1 - (n + 1) + n = o by omega] at this
          exact absurd this hP
theorem qt_le {P : Nat → Bool} : ∀ o, qt P o ≤ o
  | 0 => Nat.le_refl _
  | o + 1 => by
    have := qt_le (P := P) o
    rw [qt]
    split <;> omega
def hoB (P : Nat → Bool) (n f : Nat) : Bool := decide (∀ k, k < n → P (f + k) = true)
theorem hoB_qt {P : Nat → Bool} {n f : Nat} : hoB P n f = true ↔ n ≤ qt P (f + n) := by
  unfold hoB
  rw [decide_eq_true_iff, qt_iff, show f + n - n = f by omega]
  exact ⟨fun h => ⟨by omega, h⟩, fun h => h.2⟩
def cn (P : Nat → Bool) : Nat → Nat
  | 0 => 0
  | n + 1 => cn P n + if P n = true then 1 else 0
theorem cn_le {P : Nat → Bool} : ∀ n, cn P n ≤ n
  | 0 => Nat.le_refl _
  | n + 1 => by
    have := cn_le (P := P) n
    rw [cn]
    split <;> omega
def liB (E : sE) (p l : Nat) (n : Nat) : Bool := decide (loE E p n ≤ l)
theorem isHoleM {E : sE} {S : qv_St} {p f n l : Nat} (hl : ∀ k, k < 331 → S.1 38 k = nI (loE E p k)) (hf : f + n ≤ 331) (hll : l ≤ 99) : fX12_isHole S (nI f) (nI n) (nI l) = some (if hoB (liB E p l) n f = true then 1 else 0) := by
  have key : okk (fX12_isHole S (nI f) (nI n) (nI l)) (fun z => z = (if hoB (liB E p l) n f = true then 1 else 0)) := by
    unfold fX12_isHole
    have hN5 := qN
    generalize qv_N = N at hN5 ⊢
    refine ok_lp1 (fun m x => ∃ i, m = n - i ∧ i ≤ n ∧ x = nI i ∧ ∀ k, k < i → liB E p l (f + k) = true) ?_ N n 0 ⟨0, rfl, by omega, rfl, fun k hk => by omega⟩ (by omega)
    rintro self m x ⟨i, rfl, hi, rfl, hk⟩ ih
    by_cases e : i = n
    · subst e
      refine ok_pos (Int32.le_refl _) (ok_s ?_)
      rw [if_pos (show hoB (liB E p l) i f = true from decide_eq_true hk)]
    · refine ok_neg (nI_ge (by omega) (by omega)) ?_
      rw [nI_add, qi_cl (by omega), hl (f + i) (by omega), nI_1]
      have hlo : loE E p (f + i) ≤ 99 := loE_le
      refine ok_ck (f + i) rfl (by omega) (by decide) (ok_if (fun g => ?_) (fun g => ok_s ?_))
      · have g := (nI_leI (by omega) (by omega)).mp g
        refine ih (n - (i + 1)) _ (by omega) ⟨i + 1, rfl, by omega, rfl, fun k hk2 => ?_⟩
        by_cases e2 : k = i
        · subst e2; exact decide_eq_true g
        · exact hk k (by omega)
      · rw [if_neg]
        intro z
        have z := (decide_eq_true_iff.mp z) i (by omega)
        exact g (nI_le (decide_eq_true_iff.mp z) (by omega))
  obtain ⟨r, h1, rfl⟩ := key
  exact h1
theorem isHoleB {E : sE} {lv : Nat} {S1 S2 : qv_St} (h1 : qC E S1) (h2 : qM lv E S2) (a b c : Int32) : (fX11_isHole S1 a b c = some 0 ∧ (fX12_isAsked S2 a b = some 0 ∨ (fX12_isAsked S2 a b = some 1 ∧ fX12_in c 0 99 = some 0))) ∨ ∃ p n l, p < E.1 9 1 ∧ 1 ≤ n ∧ n ≤ 30 ∧ l ≤ 99 ∧ a = nI p ∧ b = nI n ∧ c = nI l ∧ fX11_isHole S1 a b c = some 1 ∧ fX12_isAsked S2 a b = some 1 ∧ fX12_in c 0 99 = some 1 := by
  unfold fX11_isHole fX12_isAsked
  simp only [qj_e]
  rcases plI (x := a) h1 h2 with ⟨e1, e2⟩ | ⟨p, hp, rfl, e1, e2⟩
  · rw [e1, e2, b0, b0, if_pos rfl, if_pos rfl]; exact Or.inl ⟨rfl, Or.inl rfl⟩
  rw [e1, e2, b1, b1, if_neg n10, if_neg n10]
  rcases rgI b 1 30 1 30 rfl rfl (by decide) (by decide) with ⟨e1, e2⟩ | ⟨n, hn0, hn, rfl, e1, e2⟩
  · rw [e1, e2, b0, b0, if_pos rfl, if_pos rfl]; exact Or.inl ⟨rfl, Or.inl rfl⟩
  rw [e1, e2, b1, b1, if_neg n10, if_neg n10]
  rcases rgI c 0 99 0 99 rfl rfl (by decide) (by decide) with ⟨e1, e2⟩ | ⟨l, _, hl, rfl, e1, e2⟩
  · rw [e1, e2, b0, if_pos rfl]; exact Or.inl ⟨rfl, Or.inr ⟨rfl, rfl⟩⟩
  rw [e1, e2, b1, if_neg n10]
  exact Or.inr ⟨p, n, l, hp, hn0, hn, hl, rfl, rfl, rfl, rfl, rfl, rfl⟩
theorem call_hole {E : sE} {lv : Nat} {S1 S2 : qv_St} (h1 : qC E S1) (h2 : qM lv E S2) (a b c : Int32) : ask2 E S1 S2 (fX11_hole S1 a b c) (fX12_hole S2 a b c) := by
  unfold fX11_hole fX12_hole
  have hN5 := qN
  generalize qv_N = N at hN5 ⊢
  simp only [qj_e]
  rcases isHoleB h1 h2 a b c with ⟨e1, e2 | ⟨e2, e3⟩⟩ | ⟨p, n, l, hp, hn0, hn, hl, rfl, rfl, rfl, e1, e2, e3⟩
  · rw [e1, e2, b0, b0, if_pos rfl, if_pos rfl]; exact ask2_no h1
  · rw [e1, e2, e3, b0, b0, b1, if_pos rfl, if_neg n10, if_pos rfl]; exact ask2_no h1
  rw [e1, e2, e3, b1, b1, b1, if_neg n10, if_neg n10, if_neg n10]
  refine ask2_mk (if fs (hoB (liB E p l) n) 0 301 < 301 then nI (fs (hoB (liB E p l) n) 0 301) else -2) ?_ ?_
  · refine ok_bd (faceQ h1 hp) ?_
    rintro T ⟨hT, hf⟩
    have e300 : 300 + nI n = nI (300 + n) := nI_add 300 n
    rw [e300]
    refine ok_lp3 (fun m U x4 x5 => ∃ i, m = 300 + n - i ∧ i ≤ 300 + n ∧ x5 = nI i ∧ x4 = nI (qt (liB E p l) i) ∧ (∀ j, j ≤ i → qt (liB E p l) j < n) ∧ SV E p U ∧ frD T U) ?_ N (300 + n) T 0 0 ⟨0, rfl, by omega, rfl, rfl, fun j hj => by have := qt_le (P := liB E p l) j; omega, hT, frD_rf⟩ (by omega)
    rintro self m U x4 x5 ⟨i, rfl, hi, rfl, rfl, hq, hU, hfU⟩ ih
    by_cases e : i = 300 + n
    · refine ok_pos (by rw [e]; exact Int32.le_refl _) (ok_s ⟨?_, qC_SV hU, frE_tr hf (frE_D hfU)⟩)
      show -2 = _
      rw [if_neg]
      intro z
      obtain ⟨g1, g2, g3, g4⟩ := fs_spec (P := hoB (liB E p l) n) 301 0
      have := hoB_qt.mp (g4 (by omega))
      have := hq (fs (hoB (liB E p l) n) 0 301 + n) (by omega)
      omega
    · refine ok_neg (nI_ge (by omega) (by omega)) (ok_cm (noiseC hU (n := i) (by omega)) ?_)
      rintro S4 r ⟨hr, hS4, hf4⟩
      have hr : r = _ := hr
      have hS4 : SV E p S4 := hS4
      have hf4 : frD U S4 := hf4
      subst hr
      have hlo : loE E p i ≤ 99 := loE_le
      have hqi := hq i (Nat.le_refl _)
      have key : ∀ y, y = nI (qt (liB E p l) (i + 1)) → okk (if y = nI n then some (S4, nI i - nI n + 1) else self S4 y (nI i + 1)) (fun z => z.2 = (if fs (hoB (liB E p l) n) 0 301 < 301 then nI (fs (hoB (liB E p l) n) 0 301) else -2) ∧ qC E z.1 ∧ frE S1 z.1) := by
        rintro y rfl
        have hql := qt_le (P := liB E p l) (i + 1)
        by_cases g : qt (liB E p l) (i + 1) = n
        · refine ok_pos (by rw [g]) (ok_s ⟨?_, qC_SV hS4, frE_tr hf (frE_D (frD_tr hfU hf4))⟩)
          have e2 : fs (hoB (liB E p l) n) 0 301 = i + 1 - n := by
            refine fs_uniq (by omega) (by omega) (fun k _ hk => ?_) (fun _ => hoB_qt.mpr (by rw [show i + 1 - n + n = i + 1 by omega, g]; exact Nat.le_refl _))
            cases hb : hoB (liB E p l) n k with
            | false => rfl
            | true =>
              have := hoB_qt.mp hb
              have := hq (k + n) (by omega)
              omega
          show nI i - nI n + 1 = _
          rw [e2, if_pos (by omega)]
          by_cases h9 : n ≤ i
          · rw [pk_sub h9, nI_1]; congr 1; omega
          · have : n = i + 1 := by omega
            subst this
            rw [← nI_1]
            have : nI i - (nI i + 1) + 1 = 0 := by
              generalize nI i = w
              grind
            rw [this, Nat.sub_self]
            rfl
        · refine ok_neg (fun z => g ((nI_eq (by omega) (by omega)).mp z)) ?_
          rw [nI_1]
          refine ih (300 + n - (i + 1)) _ _ _ (by omega) ⟨i + 1, rfl, by omega, rfl, rfl, fun j hj => ?_, hS4, frD_tr hfU hf4⟩
          by_cases e3 : j = i + 1
          · subst e3
            have : qt (liB E p l) (i + 1) ≤ qt (liB E p l) i + 1 := by
              rw [qt]; split <;> omega
            omega
          · exact hq j (by omega)
      refine ok_if (fun g => key _ ?_) (fun g => key _ ?_)
      · have g := (nI_ltI (by omega) (by omega)).mp g
        rw [qt, if_neg (by unfold liB; rw [decide_eq_true_iff]; omega)]
        rfl
      · have g : ¬ l < loE E p i := fun z => g (nI_lt z (by omega))
        rw [qt, if_pos (by unfold liB; rw [decide_eq_true_iff]; omega), nI_1]
  · refine ok_bd (copiesQ h2) ?_
    rintro T ⟨hT, hf⟩
    refine ok_bd (fillsM hT h2.1 hp (m := 331) (by decide)) ?_
    rintro U ⟨hU, hfU⟩
    have hfr := frQ_tr hf (frQ_L hfU)
    refine ok_lp1 (fun m x => ∃ i, m = 301 - i ∧ i ≤ 301 ∧ x = nI i ∧ ∀ k, k < i → hoB (liB E p l) n k = false) ?_ N 301 0 ⟨0, rfl, by omega, rfl, fun k hk => by omega⟩ (by omega)
    rintro self m x ⟨i, rfl, hi, rfl, hk⟩ ih
    by_cases e : i = 301
    · subst e
      refine ok_pos (by decide) (ok_s ⟨?_, hfr⟩)
      show -2 = _
      rw [if_neg]
      intro z
      obtain ⟨g1, g2, g3, g4⟩ := fs_spec (P := hoB (liB E p l) n) 301 0
      have := hk _ z
      rw [g4 (by omega)] at this
      cases this
    · refine ok_neg (show ¬ (300 : Int32) < nI i from nI_nlt (b := i) (a := 300) (by omega) (by decide)) ?_
      rw [isHoleM hU (by omega) hl, Option.bind_some, nI_1]
      cases hb : hoB (liB E p l) n i with
      | false =>
        refine ok_pos rfl (ih (301 - (i + 1)) _ (by omega) ⟨i + 1, rfl, by omega, rfl, fun k hk2 => ?_⟩)
        by_cases e2 : k = i
        · subst e2; exact hb
        · exact hk k (by omega)
      | true =>
        refine ok_neg (by decide) (ok_s ⟨?_, hfr⟩)
        have e2 : fs (hoB (liB E p l) n) 0 301 = i := fs_uniq (by omega) (by omega) (fun k _ h => hk k h) (fun _ => hb)
        show nI i = _
        rw [e2, if_pos (by omega)]
theorem call_holes {E : sE} {lv : Nat} {S1 S2 : qv_St} (h1 : qC E S1) (h2 : qM lv E S2) (a b c : Int32) : ask2 E S1 S2 (fX11_holes S1 a b c) (fX12_holes S2 a b c) := by
  unfold fX11_holes fX12_holes
  have hN5 := qN
  generalize qv_N = N at hN5 ⊢
  simp only [qj_e]
  rcases isHoleB h1 h2 a b c with ⟨e1, e2 | ⟨e2, e3⟩⟩ | ⟨p, n, l, hp, hn0, hn, hl, rfl, rfl, rfl, e1, e2, e3⟩
  · rw [e1, e2, b0, b0, if_pos rfl, if_pos rfl]; exact ask2_no h1
  · rw [e1, e2, e3, b0, b0, b1, if_pos rfl, if_neg n10, if_pos rfl]; exact ask2_no h1
  rw [e1, e2, e3, b1, b1, b1, if_neg n10, if_neg n10, if_neg n10]
  refine ask2_mk (nI (cn (hoB (liB E p l) n) 300)) ?_ ?_
  · refine ok_bd (faceQ h1 hp) ?_
    rintro T ⟨hT, hf⟩
    have e300 : 299 + nI n = nI (299 + n) := nI_add 299 n
    rw [e300]
    refine ok_lp4 (fun m U x4 x5 x6 => ∃ i, m = 299 + n - i ∧ i ≤ 299 + n ∧ x6 = nI i ∧ x4 = nI (qt (liB E p l) i) ∧ x5 = nI (cn (hoB (liB E p l) n) (i + 1 - n)) ∧ SV E p U ∧ frD T U) ?_ N (299 + n) T 0 0 0 ⟨0, rfl, by omega, rfl, rfl, by rw [show 0 + 1 - n = 0 by omega]; rfl, hT, frD_rf⟩ (by omega)
    rintro self m U x4 x5 x6 ⟨i, rfl, hi, rfl, rfl, rfl, hU, hfU⟩ ih
    by_cases e : i = 299 + n
    · refine ok_pos (by rw [e]; exact Int32.le_refl _) (ok_s ⟨?_, qC_SV hU, frE_tr hf (frE_D hfU)⟩)
      show nI _ = _
      rw [e, show 299 + n + 1 - n = 300 by omega]
    · refine ok_neg (nI_ge (by omega) (by omega)) (ok_cm (noiseC hU (n := i) (by omega)) ?_)
      rintro S4 r ⟨hr, hS4, hf4⟩
      have hr : r = _ := hr
      have hS4 : SV E p S4 := hS4
      have hf4 : frD U S4 := hf4
      subst hr
      have hlo : loE E p i ≤ 99 := loE_le
      have key : ∀ y, y = nI (qt (liB E p l) (i + 1)) → okk (if y < nI n then self S4 y (nI (cn (hoB (liB E p l) n) (i + 1 - n))) (nI i + 1) else self S4 y (nI (cn (hoB (liB E p l) n) (i + 1 - n)) + 1) (nI i + 1)) (fun z => z.2 = nI (cn (hoB (liB E p l) n) 300) ∧ qC E z.1 ∧ frE S1 z.1) := by
        rintro y rfl
        have hql := qt_le (P := liB E p l) (i + 1)
        rw [nI_1, nI_1]
        refine ok_if (fun g => ?_) (fun g => ?_)
        · have g := (nI_ltI (by omega) (by omega)).mp g
          refine ih (299 + n - (i + 1)) _ _ _ _ (by omega) ⟨i + 1, rfl, by omega, rfl, rfl, ?_, hS4, frD_tr hfU hf4⟩
          by_cases h9 : n ≤ i + 1
          · rw [show i + 1 + 1 - n = i + 1 - n + 1 by omega, cn, if_neg (fun z => by
              have := hoB_qt.mp z
              rw [show i + 1 - n + n = i + 1 by omega] at this
              omega)]
            rfl
          · rw [show i + 1 + 1 - n = i + 1 - n by omega]
        · have g : ¬ qt (liB E p l) (i + 1) < n := fun z => g (nI_lt z (by omega))
          refine ih (299 + n - (i + 1)) _ _ _ _ (by omega) ⟨i + 1, rfl, by omega, rfl, rfl, ?_, hS4, frD_tr hfU hf4⟩
          rw [show i + 1 + 1 - n = i + 1 - n + 1 by omega, cn, if_pos]
          rw [hoB_qt, show i + 1 - n + n = i + 1 by omega]
          omega
      refine ok_if (fun g => key _ ?_) (fun g => key _ ?_)
      · have g := (nI_ltI (by omega) (by omega)).mp g
        rw [qt, if_neg (by unfold liB; rw [decide_eq_true_iff]; omega)]
        rfl
      · have g : ¬ l < loE E p i := fun z => g (nI_lt z (by omega))
        rw [qt, if_pos (by unfold liB; rw [decide_eq_true_iff]; omega), nI_1]
  · refine ok_bd (copiesQ h2) ?_
    rintro T ⟨hT, hf⟩
    refine ok_bd (fillsM hT h2.1 hp (m := 331) (by decide)) ?_
    rintro U ⟨hU, hfU⟩
    have hfr := frQ_tr hf (frQ_L hfU)
    refine ok_lp2 (fun m x4 x => ∃ i, m = 300 - i ∧ i ≤ 300 ∧ x = nI i ∧ x4 = nI (cn (hoB (liB E p l) n) i)) ?_ N 300 0 0 ⟨0, rfl, by omega, rfl, rfl⟩ (by omega)
    rintro self m x4 x ⟨i, rfl, hi, rfl, rfl⟩ ih
    by_cases e : i = 300
    · subst e
      exact ok_pos (by decide) (ok_s ⟨rfl, hfr⟩)
    · refine ok_neg (show ¬ (300 : Int32) ≤ nI i from nI_ge (b := 300) (by omega) (by decide)) ?_
      rw [isHoleM hU (by omega) hl, Option.bind_some, nI_1, nI_1]
      cases hb : hoB (liB E p l) n i with
      | false => exact ok_pos rfl (ih (300 - (i + 1)) _ _ (by omega) ⟨i + 1, rfl, by omega, rfl, by rw [cn, hb]; rfl⟩)
      | true => exact ok_neg (by decide) (ih (300 - (i + 1)) _ _ (by omega) ⟨i + 1, rfl, by omega, rfl, by rw [cn, hb]; rfl⟩)
/-- the first of the least -/
def am (g : Nat → Nat) : Nat → Nat
  | 0 => 0
  | n + 1 => if g (n + 1) < g (am g n) then n + 1 else am g n
theorem am_le {g : Nat → Nat} : ∀ n, am g n ≤ n
  | 0 => Nat.le_refl _
  | n + 1 => by
    have := am_le (g := g) n
    rw [am]
    split <;> omega
theorem mostInM {E : sE} {S : qv_St} {p f n m : Nat} (hl : ∀ k, k < m → S.1 38 k = nI (loE E p k)) (hf : f + n ≤ m) (hm : m ≤ 1620) : fX12_mostIn S (nI f) (nI n) = some (nI (mxN (fun k => loE E p (f + k)) n)) := by
  have key : okk (fX12_mostIn S (nI f) (nI n)) (fun z => z = nI (mxN (fun k => loE E p (f + k)) n)) := by
    unfold fX12_mostIn
    have hN5 := qN
    generalize qv_N = N at hN5 ⊢
    simp only [qj_e, qb_e]
    refine ok_lp2 (fun m x3 x => ∃ i, m = n - i ∧ i ≤ n ∧ x = nI i ∧ x3 = nI (mxN (fun k => loE E p (f + k)) i)) ?_ N n 0 0 ⟨0, rfl, by omega, rfl, rfl⟩ (by omega)
    rintro self m x3 x ⟨i, rfl, hi, rfl, rfl⟩ ih
    by_cases e : i = n
    · subst e
      exact ok_pos (Int32.le_refl _) (ok_s rfl)
    · refine ok_neg (nI_ge (by omega) (by omega)) ?_
      rw [nI_add, qi_cl (by omega), hl (f + i) (by omega), nI_1]
      have hlo : loE E p (f + i) ≤ 99 := loE_le
      have hmx : mxN (fun k => loE E p (f + k)) i ≤ 99 := mxN_le _ (fun _ _ => loE_le)
      refine ok_ck (f + i) rfl (by omega) (by decide) (ok_if (fun g => ?_) (fun g => ok_ck (f + i) rfl (by omega) (by decide) ?_))
      · have g := (nI_leI (by omega) (by omega)).mp g
        exact ih (n - (i + 1)) _ _ (by omega) ⟨i + 1, rfl, by omega, rfl, by rw [mxN, Nat.max_eq_left g]⟩
      · have g : ¬ loE E p (f + i) ≤ mxN (fun k => loE E p (f + k)) i := fun z => g (nI_le z (by omega))
        exact ih (n - (i + 1)) _ _ (by omega) ⟨i + 1, rfl, by omega, rfl, by rw [mxN, Nat.max_eq_right (by omega)]⟩
  obtain ⟨r, h1, rfl⟩ := key
  exact h1
theorem call_softest {E : sE} {lv : Nat} {S1 S2 : qv_St} (h1 : qC E S1) (h2 : qM lv E S2) (a b c : Int32) : ask2 E S1 S2 (fX11_softest S1 a b c) (fX12_softest S2 a b c) := by
  unfold fX11_softest fX12_softest fX12_isAsked
  have hN5 := qN
  generalize qv_N = N at hN5 ⊢
  simp only [qj_e]
  rcases plI (x := a) h1 h2 with ⟨e1, e2⟩ | ⟨p, hp, rfl, e1, e2⟩
  · rw [e1, e2, b0, b0, if_pos rfl, if_pos rfl, b0, if_pos rfl]; exact ask2_no h1
  rw [e1, e2, b1, b1, if_neg n10, if_neg n10]
  rcases rgI b 1 30 1 30 rfl rfl (by decide) (by decide) with ⟨e1, e2⟩ | ⟨n, hn0, hn, rfl, e1, e2⟩
  · rw [e1, e2, b0, b0, if_pos rfl, if_pos rfl, b0, if_pos rfl]; exact ask2_no h1
  rw [e1, e2, b1, b1, if_neg n10, if_neg n10, b1, if_neg n10]
  rcases rgI c 0 1 0 1 rfl rfl (by decide) (by decide) with ⟨e1, e2⟩ | ⟨w, _, hw, rfl, e1, e2⟩
  · rw [e1, e2, b0, b0, if_pos rfl, if_pos rfl]; exact ask2_no h1
  rw [e1, e2, b1, b1, if_neg n10, if_neg n10]
  have hg : ∀ f, mxN (fun k => loE E p (f + k)) n ≤ 99 := fun f => mxN_le _ (fun _ _ => loE_le)
  refine ask2_mk (if nI w = 0 then nI (mxN (fun k => loE E p (am (fun f => mxN (fun k => loE E p (f + k)) n) 300 + k)) n) else nI (am (fun f => mxN (fun k => loE E p (f + k)) n) 300)) ?_ ?_
  · refine ok_bd (faceQ h1 hp) ?_
    rintro T ⟨hT, hf⟩
    refine ok_lp4 (fun m U x4 x5 x6 => ∃ i, m = 301 - i ∧ i ≤ 301 ∧ x6 = nI i ∧ ((i = 0 ∧ x4 = nI 100 ∧ x5 = 0) ∨ ∃ j, i = j + 1 ∧ x5 = nI (am (fun f => mxN (fun k => loE E p (f + k)) n) j) ∧ x4 = nI (mxN (fun k => loE E p (am (fun f => mxN (fun k => loE E p (f + k)) n) j + k)) n)) ∧ SV E p U ∧ frD T U) ?_ N 301 T 100 0 0 ⟨0, rfl, by omega, rfl, Or.inl ⟨rfl, rfl, rfl⟩, hT, frD_rf⟩ (by omega)
    rintro self m U x4 x5 x6 ⟨i, rfl, hi, rfl, hx, hU, hfU⟩ ih
    by_cases e : i = 301
    · refine ok_pos (by rw [e]; decide) ?_
      rcases hx with ⟨h0, _⟩ | ⟨j, hj, rfl, rfl⟩
      · omega
      · have hj : j = 300 := by omega
        subst hj
        refine ok_if (fun g => ok_s ⟨?_, qC_SV hU, frE_tr hf (frE_D hfU)⟩) (fun g => ok_s ⟨?_, qC_SV hU, frE_tr hf (frE_D hfU)⟩)
        · rw [if_pos g]
        · rw [if_neg g]
    · refine ok_neg (show ¬ (300 : Int32) < nI i from nI_nlt (b := i) (a := 300) (by omega) (by decide)) ?_
      have hlt1 : 301 - (i + 1) < 301 - i := by clear hx ih; omega
      have hle1 : i + 1 ≤ 301 := by clear hx ih; omega
      obtain ⟨en, hen, rfl, hen2⟩ : ∃ en, en ≤ 100 ∧ x4 = nI en ∧ ((i = 0 ∧ en = 100) ∨ ∃ j, i = j + 1 ∧ en = mxN (fun k => loE E p (am (fun f => mxN (fun k => loE E p (f + k)) n) j + k)) n) := by
        rcases hx with ⟨h0, hx4, _⟩ | ⟨j, hj, _, hx4⟩
        · exact ⟨100, Nat.le_refl _, hx4, Or.inl ⟨h0, rfl⟩⟩
        · exact ⟨_, Nat.le_trans (hg _) (by decide), hx4, Or.inr ⟨j, hj, rfl⟩⟩
      refine ok_cm (greatC hU (o := i) (n := n) (by omega) hen) ?_
      rintro S4 r ⟨⟨g, hr, hgl, hg2⟩, hS4, hf4⟩
      have hr : r = nI g := hr
      have hS4 : SV E p S4 := hS4
      have hf4 : frD U S4 := hf4
      subst hr
      have hgi := hg i
      rw [nI_1]
      refine ok_if (fun g3 => ?_) (fun g3 => ?_)
      · have g3 := (nI_leI (by omega) (by omega)).mp g3
        refine ih (301 - (i + 1)) _ _ _ _ hlt1 ⟨i + 1, rfl, hle1, rfl, Or.inr ⟨i, rfl, ?_, ?_⟩, hS4, frD_tr hfU hf4⟩
        all_goals
          rcases hx with ⟨h0, hx4, hx5⟩ | ⟨j, rfl, hx5, hx4⟩
        · have hx4 := (nI_eq (by omega) (by decide)).mp hx4
          omega
        · have hx4 := (nI_eq (by omega) (by have := hg (am (fun f => mxN (fun k => loE E p (f + k)) n) j); omega)).mp hx4
          rw [hx5, am, if_neg (by omega)]
        · have hx4 := (nI_eq (by omega) (by decide)).mp hx4
          omega
        · have hx4 := (nI_eq (by omega) (by have := hg (am (fun f => mxN (fun k => loE E p (f + k)) n) j); omega)).mp hx4
          rw [am, if_neg (by omega), hx4]
      · have g3 : ¬ en ≤ g := fun z => g3 (nI_le z (by omega))
        have hge : g = mxN (fun k => loE E p (i + k)) n := by omega
        refine ih (301 - (i + 1)) _ _ _ _ hlt1 ⟨i + 1, rfl, hle1, rfl, Or.inr ⟨i, rfl, ?_, ?_⟩, hS4, frD_tr hfU hf4⟩
        all_goals
          rcases hen2 with ⟨h0, _⟩ | ⟨j, rfl, hx4⟩
        · subst h0; rfl
        · rw [am, if_pos (by omega)]
        · subst h0; rw [hge]; rfl
        · rw [am, if_pos (by omega), hge]
  · refine ok_bd (copiesQ h2) ?_
    rintro T ⟨hT, hf⟩
    refine ok_bd (fillsM hT h2.1 hp (m := 331) (by decide)) ?_
    rintro U ⟨hU, hfU⟩
    have hfr := frQ_tr hf (frQ_L hfU)
    refine ok_lp2 (fun m x4 x => ∃ i, m = 300 - i ∧ i ≤ 300 ∧ x = nI (i + 1) ∧ x4 = nI (am (fun f => mxN (fun k => loE E p (f + k)) n) i)) ?_ N 300 0 1 ⟨0, rfl, by omega, rfl, rfl⟩ (by omega)
    rintro self m x4 x ⟨i, rfl, hi, rfl, rfl⟩ ih
    have hal := am_le (g := fun f => mxN (fun k => loE E p (f + k)) n) i
    rw [mostInM hU (f := am (fun f => mxN (fun k => loE E p (f + k)) n) i) (n := n) (by omega) (by decide)]
    by_cases e : i = 300
    · subst e
      refine ok_pos (by decide) (ok_if (fun g => ok_s ⟨?_, hfr⟩) (fun g => ok_s ⟨?_, hfr⟩))
      · rw [if_pos g]
      · rw [if_neg g]
    · refine ok_neg (show ¬ (300 : Int32) < nI (i + 1) from nI_nlt (b := i + 1) (a := 300) (by omega) (by decide)) ?_
      rw [mostInM hU (f := i + 1) (n := n) (by omega) (by decide), Option.bind_some, Option.bind_some, nI_1]
      have w1 := hg (i + 1)
      have w2 := hg (am (fun f => mxN (fun k => loE E p (f + k)) n) i)
      refine ok_if (fun g => ?_) (fun g => ?_)
      · have g := (nI_leI (by omega) (by omega)).mp g
        exact ih (300 - (i + 1)) _ _ (by omega) ⟨i + 1, rfl, by omega, rfl, by rw [am, if_neg (by omega)]⟩
      · have g : ¬ _ ≤ _ := fun z => g (nI_le z (by omega))
        exact ih (300 - (i + 1)) _ _ (by omega) ⟨i + 1, rfl, by omega, rfl, by rw [am, if_pos (by omega)]⟩
