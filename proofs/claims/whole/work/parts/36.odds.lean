/-! odds -/
def sdX (E : sE) (i : Nat) : sE := (E.1, E.2.1, E.2.2.1 + nI i, E.2.2.2)
theorem tuneC {E : sE} {S : qv_St} {x : Int32} (h : HC E S) (hn8 : E.1 9 0 ≤ 8) : okk (fX0_tune S x) (fun z => HC (E.1, E.2.1, x, E.2.2.2) z ∧ z.2 = S.2 ∧ ∀ q, q ≠ 254 → q ≠ 258 → z.1 q = S.1 q) := by
  unfold fX0_tune
  simp only [qb_e]
  rw [fill_eq (by decide), Option.bind_some, qs_si]
  have g : ∀ q, q ≠ 254 → q ≠ 258 → (qs (qs S 254 (upd (S.1 254) 6 x)) 258 (fun j => if j < 8 then -1000 else (qs S 254 (upd (S.1 254) 6 x)).1 258 j)).1 q = S.1 q := fun q a b => by rw [qs_ne b, qs_ne a]
  refine ok_s ⟨⟨cS_G (fun q a b _ _ => g q (by omega) (by omega)) h.1, cR_G (fun q a b => g q (by omega) (by omega)) h.2.1, ?_, ?_, ?_⟩, rfl, g⟩
  · rw [qs_ne (by decide), qs_eq, upd_eq]
  · unfold cZ
    rw [g 255 (by decide) (by decide), g 256 (by decide) (by decide), g 257 (by decide) (by decide)]
    exact h.2.2.2.1
  · intro k hk hk2
    have hk : k < E.1 9 0 := hk
    rw [qs_eq, if_pos (by omega)]
    exact Or.inl rfl
theorem dropC {E : sE} {S : qv_St} (h : HC E S) (hv : vE E) : okk (fX7_drop S) (fun z => qC E z ∧ z.2 = S.2 ∧ ∀ q, q ≠ 260 → z.1 q = S.1 q) := by
  unfold fX7_drop
  simp only [qb_e]
  rw [qs_si]
  refine ok_s ⟨⟨hv, HC_keep h (fun q hq => qs_ne (by omega)), Or.inl (by rw [qs_eq, upd_eq])⟩, rfl, fun q hq => qs_ne hq⟩
theorem call_odds {E : sE} {lv : Nat} {S1 S2 : qv_St} (hw : wE E) (h1 : qC E S1) (h2 : qM lv E S2) (a b c : Int32) : ask2 E S1 S2 (fX11_odds S1 a b c) (fX12_odds S2 a b c) := by
  unfold fX11_odds fX12_odds
  have hN5 := qN
  generalize qv_N = N at hN5 ⊢
  simp only [qj_e, qb_e]
  rcases shI (x := a) h1 h2 with ⟨e1, e2⟩ | ⟨s, hs, rfl, e1, e2⟩
  · rw [e1, e2, b0, b0, if_pos rfl, if_pos rfl]; exact ask2_no h1
  rw [e1, e2, b1, b1, if_neg n10, if_neg n10]
  rcases rgI b 0 300 0 300 rfl rfl (by decide) (by decide) with ⟨e1, e2⟩ | ⟨n, _, hn, rfl, e1, e2⟩
  · rw [e1, e2, b0, b0, if_pos rfl, if_pos rfl]; exact ask2_no h1
  rw [e1, e2, b1, b1, if_neg n10, if_neg n10]
  rcases rgI c 1 20 1 20 rfl rfl (by decide) (by decide) with ⟨e1, e2⟩ | ⟨m, hm1, hm, rfl, e1, e2⟩
  · rw [e1, e2, b0, b0, if_pos rfl, if_pos rfl]; exact ask2_no h1
  rw [e1, e2, b1, b1, if_neg n10, if_neg n10, plC h1.2.1 h1.1, plM h2.2.1 h2.1]
  by_cases hnp : E.1 9 1 = 0
  · rw [if_pos hnp, if_pos hnp]; exact ask2_no h1
  rw [if_neg hnp, if_neg hnp]
  have hv := h1.1
  have h8 := hv.1.1
  have h4 := hv.1.2.1
  have h0 := hv.2.2 0 (by decide)
  have hL := hv.1.2.2.2.2.2.2.2.2 s hs
  have hp : E.2.2.2 1 < E.1 9 1 := by rcases hw.2.2.1 with z | z; exact absurd z hnp; exact z
  generalize hP : E.2.2.2 1 = p at hp
  have hsd := h2.2.2.2
  refine ask2_mk (nI (cn (fun i => goE (sdX E i) p s n) m)) ?_ ?_
  · refine ok_lp3 (fun k U x4 x5 => ∃ i, k = m - i ∧ i ≤ m ∧ x5 = nI i ∧ x4 = nI (cn (fun i => goE (sdX E i) p s n) i) ∧ (∃ sd, HC (E.1, E.2.1, sd, E.2.2.2) U) ∧ frE S1 U) ?_ N m S1 0 0 ⟨0, rfl, by omega, rfl, rfl, ⟨E.2.2.1, h1.2.1⟩, frE_rf⟩ (by omega)
    rintro self k U x4 x5 ⟨i, rfl, hi, rfl, rfl, ⟨sd, hU⟩, hfU⟩ ih
    have e917 : U.1 9 17 = E.2.2.1 := by rw [hsd]; exact hU.1.2.2.2.2.2.1
    rw [e917]
    by_cases e : i = m
    · refine ok_pos (by rw [e]; exact Int32.le_refl _) (ok_bd (tuneC hU h8) ?_)
      rintro V ⟨hV, hV2, hV3⟩
      have hV : HC E V := hV
      refine ok_bd (dropC hV hv) ?_
      rintro Y ⟨hY, hY2, hY3⟩
      refine ok_s ⟨by rw [e], hY, frE_tr hfU ⟨by rw [hY2, hV2], fun q q1 q2 q3 q4 => by rw [hY3 q (by omega), hV3 q (by omega) (by omega)]⟩⟩
    · refine ok_neg (nI_ge (by omega) (by omega)) (ok_bd (tuneC hU h8) ?_)
      rintro V ⟨hV, hV2, hV3⟩
      have hV : HC (sdX E i) V := hV
      have hvx : vE (sdX E i) := hv
      refine ok_bd (dropC hV hvx) ?_
      rintro Y ⟨hY, hY2, hY3⟩
      have e311 : Y.1 31 1 = nI p := by rw [← hP]; exact hY.2.1.2.1.2.1
      rw [e311]
      refine ok_bd (faceQ hY hp) ?_
      rintro Z ⟨hZ, hfZ⟩
      refine ok_cm (unclearC hZ hs (n := n) (by omega)) ?_
      rintro S8 r ⟨hr, hS8, hf8⟩
      have hr : r = fuR (sdX E i) p s n := hr
      have hS8 : SV (sdX E i) p S8 := hS8
      have hf8 : frD Z S8 := hf8
      subst hr
      have hfr : frE S1 S8 := frE_tr hfU (frE_tr ⟨by rw [hY2, hV2], fun q q1 q2 q3 q4 => by rw [hY3 q (by omega), hV3 q (by omega) (by omega)]⟩ (frE_tr hfZ (frE_D hf8)))
      obtain ⟨g1, g2, g3, g4⟩ := fs_spec (P := fun k => !clE (sdX E i) p s n k) ((sdX E i).1 17 s) 0
      have hL2 : (sdX E i).1 17 s = E.1 17 s := rfl
      rw [nI_1, nI_1]
      unfold fuR
      by_cases z : fuE (sdX E i) p s n = (sdX E i).1 17 s
      · rw [if_pos z]
        refine ok_neg (by decide) (ih (m - (i + 1)) _ _ _ (by omega) ⟨i + 1, rfl, by omega, rfl, ?_, ⟨_, hS8.2.1⟩, hfr⟩)
        rw [cn, if_pos (fu_go.mpr z)]
      · rw [if_neg z]
        refine ok_pos (nI_pos' (by unfold fuE; omega)) (ih (m - (i + 1)) _ _ _ (by omega) ⟨i + 1, rfl, by omega, rfl, ?_, ⟨_, hS8.2.1⟩, hfr⟩)
        rw [cn, if_neg (fun y => z (fu_go.mp y))]
        rfl
  · refine ok_lp3 (fun k U x4 x5 => ∃ i, k = m - i ∧ i ≤ m ∧ x5 = nI i ∧ x4 = nI (cn (fun i => goE (sdX E i) p s n) i) ∧ frQ S2 U) ?_ N m S2 0 0 ⟨0, rfl, by omega, rfl, rfl, frQ_rf⟩ (by omega)
    rintro self k U x4 x5 ⟨i, rfl, hi, rfl, rfl, hfU⟩ ih
    by_cases e : i = m
    · exact ok_pos (by rw [e]; exact Int32.le_refl _) (ok_s ⟨by rw [e], hfU⟩)
    · refine ok_neg (nI_ge (by omega) (by omega)) (ok_bd (copiesQ (qM_fr h2 hfU)) ?_)
      rintro T ⟨hT, hfT⟩
      rw [hT.2.2, qs_si]
      have hvx : vE (sdX E i) := hv
      have hT2 : HM lv (sdX E i) (qs T 0 (upd (T.1 0) 55 (E.2.2.1 + nI i))) := ⟨mS_G (fun q q1 q2 => qs_ne (by omega)) (by rw [qs_eq, upd_ne (by decide)]) hT.1, fun k hk => by rw [qs_ne (by decide)]; exact hT.2.1 k hk, by rw [qs_eq, upd_eq]; rfl⟩
      have hfT2 : frQ T (qs T 0 (upd (T.1 0) 55 (E.2.2.1 + nI i))) := ⟨rfl, fun q q1 _ _ _ _ _ _ _ => qs_ne q1, fun j _ j2 _ _ _ => by rw [qs_eq, upd_ne j2]⟩
      refine ok_lp2 (fun k V x6 => ∃ j, k = n + E.1 17 s - j ∧ n ≤ j ∧ j ≤ n + E.1 17 s ∧ x6 = nI j ∧ (∀ y, n ≤ y → y < j → V.1 38 y = nI (loE (sdX E i) p y)) ∧ frL (qs T 0 (upd (T.1 0) 55 (E.2.2.1 + nI i))) V) ?_ N (n + E.1 17 s - n) _ (nI n) ⟨n, rfl, by omega, by omega, rfl, fun y h1 h2 => by omega, frL_rf⟩ (by omega)
      rintro self2 k V x6 ⟨j, rfl, hj0, hj, rfl, hlo, hfV⟩ ih2
      have hHV := HM_frL hT2 hfV
      have hlong : fX12_longFor V (nI s) = some (nI (E.1 17 s)) := longM hHV.1 hvx hs
      rw [hlong, Option.bind_some, nI_add]
      by_cases ej : j = n + E.1 17 s
      · refine ok_pos (by rw [ej]; exact Int32.le_refl _) ?_
        refine ok_cm (goodM hHV hvx hs (n := n) (p := p) (by omega) (fun k hk => hlo (n + k) (by omega) (by have : k < E.1 17 s := hk; omega))) ?_
        rintro S5 r ⟨hr, hf5⟩
        have hr : r = _ := hr
        have hf5 : frB V S5 := hf5
        subst hr
        have hfr := frQ_tr hfU (frQ_tr hfT (frQ_tr hfT2 (frQ_L (frL_tr hfV (frL_B hf5)))))
        rw [nI_1, nI_1]
        cases hb : goE (sdX E i) p s n with
        | false => exact ok_pos rfl (ih (m - (i + 1)) _ _ _ (by omega) ⟨i + 1, rfl, by omega, rfl, by rw [cn, hb]; rfl, hfr⟩)
        | true => exact ok_neg (by decide) (ih (m - (i + 1)) _ _ _ (by omega) ⟨i + 1, rfl, by omega, rfl, by rw [cn, hb]; rfl, hfr⟩)
      · refine ok_neg (nI_ge (by omega) (by omega)) (ok_ck 1 rfl (by decide) (by decide) (ok_ck 0 rfl (by decide) (by decide) ?_))
        have e1 : V.1 37 1 = nI p := by rw [← hP]; exact hHV.2.1 1 (by decide)
        rw [tc1, tc0, e1, hHV.2.1 0 (by decide), nI_add, nI_1, qi_cl (by omega)]
        refine ok_cm (loudM hHV hvx hp (n := j) (by omega)) ?_
        rintro S7 r ⟨hr, hf7⟩
        have hr : r = _ := hr
        have hf7 : frB V S7 := hf7
        subst hr
        refine ok_ck j rfl (by omega) (by decide) ?_
        rw [qs_si]
        refine ih2 (n + E.1 17 s - (j + 1)) _ _ (by omega) ⟨j + 1, rfl, by omega, by omega, rfl, fun y y1 y2 => ?_, frL_tr hfV (frL_tr (frL_B hf7) frL_38)⟩
        rw [qs_eq]
        by_cases ey : y = j
        · subst ey; rw [upd_eq]
        · rw [upd_ne ey, hf7.2.1 38 (by decide) (by decide) (by decide)]
          exact hlo y y1 (by omega)
/-! cheapest -/
def orN (P : Nat → Bool) : Nat → Bool
  | 0 => false
  | n + 1 => orN P n || P n
theorem orN_iff {P : Nat → Bool} : ∀ n, orN P n = true ↔ ∃ j, j < n ∧ P j = true
  | 0 => ⟨fun h => (by cases h), fun ⟨j, h, _⟩ => by omega⟩
  | n + 1 => by
    rw [orN, Bool.or_eq_true, orN_iff n]
    constructor
    · rintro (⟨j, h1, h2⟩ | h)
      · exact ⟨j, by omega, h2⟩
      · exact ⟨n, by omega, h⟩
    · rintro ⟨j, h1, h2⟩
      by_cases e : j = n
      · subst e; exact Or.inr h2
      · exact Or.inl ⟨j, by omega, h2⟩
theorem bt_tb {P : Nat → Bool} {n k : Nat} : (bt P n).testBit k = (decide (k < n) && P k) := by
  by_cases h : k < n
  · rw [Nat.testBit_eq_decide_div_mod_eq, decide_eq_true h, Bool.true_and]
    have := bt_test (P := P) n k h
    cases hp : P k with
    | true => rw [decide_eq_true (this.mpr hp)]
    | false => rw [decide_eq_false (fun z => by rw [this.mp z] at hp; cases hp)]
  · rw [decide_eq_false h, Bool.false_and]
    exact Nat.testBit_lt_two_pow (Nat.lt_of_lt_of_le (bt_lt n) (Nat.pow_le_pow_right (by decide) (by omega)))
theorem bt_or {P : Nat → Bool} {n m : Nat} (hm : m < n) (hn : n ≤ 16) : nI (bt P n) ||| (1 : Int32) <<< (nI m &&& 31) = nI (bt (fun k => P k || (k == m)) n) := by
  rw [sh1 m (by omega), nI_or]
  congr 1
  apply Nat.eq_of_testBit_eq
  intro k
  rw [Nat.testBit_or, bt_tb, bt_tb, Nat.testBit_two_pow]
  by_cases h : k < n
  · rw [decide_eq_true h, Bool.true_and, Bool.true_and]
    by_cases e : m = k
    · subst e; simp
    · simp [e, Ne.symm e]
  · have : m ≠ k := by omega
    rw [decide_eq_false h, Bool.false_and, Bool.false_and, decide_eq_false this]
    rfl
def tlB (E : sE) (p s j k : Nat) : Bool := decide (beE E s j (E.2.2.2 0 + j) < hrE E k p (E.2.2.2 0 + j))
def rsB (E : sE) (s j : Nat) : Bool := decide (beE E s j (E.2.2.2 0 + j) < ruE E j)
def tooE (E : sE) (p s : Nat) : Nat := bt (fun k => orN (fun j => tlB E p s j k) (E.1 17 s)) (E.1 9 0)
theorem tooC {E : sE} {p s : Nat} {S : qv_St} (h : SV E p S) (hp1 : E.2.2.2 1 = p) (hs : s < E.1 9 2) : okk (fX7_tooLoud S (nI s)) (fun z => z.2 = (if orN (rsB E s) (E.1 17 s) = true then -2 else nI (tooE E p s)) ∧ SV E p z.1 ∧ frD S z.1) := by
  unfold fX7_tooLoud
  have hN5 := qN
  generalize qv_N = N at hN5 ⊢
  simp only [qj_e, qb_e]
  have hv := h.1
  have h8 := hv.1.1
  have hs6 := hv.1.2.2.1
  have hL := (hv.1.2.2.2.2.2.2.2.2 s hs)
  have hpp := h.2.2.2.1
  refine ok_lp3 (fun m T x2 x3 => ∃ i, m = E.1 17 s - i ∧ i ≤ E.1 17 s ∧ x3 = nI i ∧ x2 = nI (bt (fun k => orN (fun j => tlB E p s j k) i) (E.1 9 0)) ∧ orN (rsB E s) i = false ∧ SV E p T ∧ frD S T) ?_ N (E.1 17 s) S 0 0 ⟨0, rfl, by omega, rfl, ?_, rfl, h, frD_rf⟩ (by omega)
  rotate_left
  · have : ∀ n, bt (fun k => orN (fun j => tlB E p s j k) 0) n = 0 := by
      intro n
      induction n with
      | zero => rfl
      | succ n ih => rw [bt, ih]; rfl
    rw [this]; rfl
  rintro self m T x2 x3 ⟨i, rfl, hi, rfl, rfl, hrs, hT, hf⟩ ih
  refine ok_ck s rfl (by omega) (by decide) ?_
  rw [qi_cl (by omega), (hT.2.1.1.2.2.2.2.2.2.2.2.1 s hs).1]
  by_cases hi2 : i = E.1 17 s
  · subst hi2
    refine ok_pos (Int32.le_refl _) (ok_s ⟨?_, hT, hf⟩)
    rw [if_neg (by rw [hrs]; decide)]
    rfl
  · refine ok_neg (nI_ge (by omega) (by omega)) ?_
    rw [hT.2.1.2.1.1, nI_add]
    refine ok_cm (borneC hT.2.1 hv hs) ?_
    rintro S2 r ⟨hr, hC2, hf2⟩
    have hr : r = nI (beE E s i (E.2.2.2 0 + i)) := hr
    have hC2 : HC E S2 := hC2
    have hf2 : frC T S2 := hf2
    subst hr
    have hbe : beE E s i (E.2.2.2 0 + i) ≤ 99 := beE_le
    refine ok_cm (soundC (SV_fr hT hC2 hf2) (n := i) (by omega)) ?_
    rintro S3 r ⟨hr, hS3, hf3⟩
    have hr : r = _ := hr
    have hS3 : SV E p S3 := hS3
    have hf3 : frD S2 S3 := hf3
    subst hr
    obtain ⟨q1, q2, q3⟩ := sdE_b hv (p := p) (n := i)
    have hru : ruE E i ≤ 50 := ruE_le
    unfold sdE
    rw [nw_rust q1 q2 q3 sdE_b1, Option.bind_some, ru_50]
    have hfr3 := frD_tr hf (frD_tr (frD_C hf2) hf3)
    refine ok_if (fun g => ?_) (fun g => ok_s ⟨?_, hS3, hfr3⟩)
    · have g := (nI_leI (by omega) (by omega)).mp g
      have hrs2 : orN (rsB E s) (i + 1) = false := by
        rw [orN, hrs, Bool.false_or]
        exact decide_eq_false (by omega)
      rw [nI_1]
      refine ok_lp3 (fun m U x2 x5 => ∃ j, m = E.1 9 0 - j ∧ j ≤ E.1 9 0 ∧ x5 = nI j ∧ x2 = nI (bt (fun k => orN (fun j => tlB E p s j k) i || (decide (k < j) && tlB E p s i k)) (E.1 9 0)) ∧ SV E p U ∧ frD S U) ?_ N (E.1 9 0) S3 _ 0 ⟨0, rfl, by omega, rfl, ?_, hS3, hfr3⟩ (by omega)
      rotate_left
      · congr 1
        exact bt_congr _ (fun k _ => by rw [decide_eq_false (Nat.not_lt_zero k), Bool.false_and, Bool.or_false])
      rintro self2 m U x2 x5 ⟨j, rfl, hj, rfl, rfl, hU, hfU⟩ ih2
      rw [hU.2.1.1.1]
      by_cases hj2 : j = E.1 9 0
      · refine ok_pos (by rw [hj2]; exact Int32.le_refl _) (ih (E.1 17 s - (i + 1)) _ _ _ (by omega) ⟨i + 1, rfl, by omega, rfl, ?_, hrs2, hU, hfU⟩)
        congr 1
        refine bt_congr _ (fun k hk => ?_)
        rw [decide_eq_true (by omega), Bool.true_and, orN]
      · refine ok_neg (nI_ge (by omega) (by omega)) ?_
        rw [hU.2.1.2.1.2.1, hp1]
        refine ok_cm (hear7C hU.2.1 hv (k := j) (p := p) (n := i) (by omega) hpp (by omega)) ?_
        rintro S6 r ⟨hr, hC6, hf6⟩
        have hr : r = nI (hrE E j p (E.2.2.2 0 + i)) := hr
        have hC6 : HC E S6 := hC6
        have hf6 : frC U S6 := hf6
        subst hr
        have hh : hrE E j p (E.2.2.2 0 + i) ≤ 99 := hrE_le
        have hS6 := SV_fr hU hC6 hf6
        have hfr6 := frD_tr hfU (frD_C hf6)
        rw [nI_1]
        refine ok_if (fun g2 => ?_) (fun g2 => ?_)
        · have g2 := (nI_leI (by omega) (by omega)).mp g2
          refine ih2 (E.1 9 0 - (j + 1)) _ _ _ (by omega) ⟨j + 1, rfl, by omega, rfl, ?_, hS6, hfr6⟩
          congr 1
          refine bt_congr _ (fun k hk => ?_)
          by_cases ek : k = j
          · subst ek
            have : tlB E p s i k = false := decide_eq_false (by omega)
            rw [this, Bool.and_false, Bool.and_false]
          · congr 2
            exact decide_eq_decide.mpr (by omega)
        · have g2 : ¬ hrE E j p (E.2.2.2 0 + i) ≤ beE E s i (E.2.2.2 0 + i) := fun z => g2 (nI_le z (by omega))
          rw [bt_or (by omega) (by omega)]
          refine ih2 (E.1 9 0 - (j + 1)) _ _ _ (by omega) ⟨j + 1, rfl, by omega, rfl, ?_, hS6, hfr6⟩
          congr 1
          refine bt_congr _ (fun k hk => ?_)
          by_cases ek : k = j
          · subst ek
            have : tlB E p s i k = true := decide_eq_true (by omega)
            rw [this, decide_eq_true (show k < k + 1 by omega)]
            simp
          · have e1 : (k == j) = false := beq_eq_false_iff_ne.mpr ek
            rw [e1, Bool.or_false]
            congr 2
            exact decide_eq_decide.mpr (by omega)
    · have g : ¬ ruE E i ≤ beE E s i (E.2.2.2 0 + i) := fun z => g (nI_le z (by omega))
      show -2 = _
      rw [if_pos]
      rw [orN_iff]
      exact ⟨i, by omega, decide_eq_true (by omega)⟩
