/-! the survey, gone on -/
theorem faceC {E : sE} {S : qv_St} {p : Nat} (hv : vE E) (h : HC E S) (hp : p < E.1 9 1) (hs : S.1 260 5 = nI p → SV E p S) : okk (fX7_face S (nI p)) (fun z => SV E p z ∧ z.2 = S.2 ∧ (∀ q, q < 260 → z.1 q = S.1 q) ∧ (∀ q, 262 < q → z.1 q = S.1 q) ∧ (∀ j, j ≠ 5 → z.1 260 j = S.1 260 j)) := by
  unfold fX7_face
  simp only [qj_e, qb_e]
  refine ok_if (fun g => ok_s ⟨hs g.symm, rfl, fun _ _ => rfl, fun _ _ => rfl, fun _ _ => rfl⟩) (fun g => ?_)
  rw [fill_eq (by decide), Option.bind_some, fill_eq (by decide), Option.bind_some, qs_si]
  refine ok_s ⟨⟨hv, HC_keep h (fun q hq => ?_), ?_, hp, fun n hn => ?_, fun n hn => ?_⟩, rfl, fun q hq => ?_, fun q hq => ?_, fun j hj => ?_⟩
  · rw [qs_ne (by omega), qs_ne (by omega), qs_ne (by omega)]
  · rw [qs_ne (by decide), qs_ne (by decide), qs_eq, upd_eq]
  · rw [qs_ne (by decide), qs_eq, if_pos hn]; exact Or.inl rfl
  · rw [qs_eq, if_pos hn]
    exact ⟨fun _ => 0, rfl, fun _ _ => Or.inl rfl⟩
  · rw [qs_ne (by omega), qs_ne (by omega), qs_ne (by omega)]
  · rw [qs_ne (by omega), qs_ne (by omega), qs_ne (by omega)]
  · rw [qs_ne (by decide), qs_ne (by decide), qs_eq, upd_ne hj]
theorem mxN_mono {f : Nat → Nat} : ∀ {a b : Nat}, a ≤ b → mxN f a ≤ mxN f b
  | a, b, h => by
    induction b with
    | zero => rw [Nat.le_zero.mp h]; exact Nat.le_refl _
    | succ b ih =>
      by_cases e : a = b + 1
      · rw [e]; exact Nat.le_refl _
      · exact Nat.le_trans (ih (by omega)) (Nat.le_max_left _ _)
/-- greatest: it stops where it is enough -/
theorem greatC {E : sE} {p o n en : Nat} {S : qv_St} (h : SV E p S) (hn : o + n ≤ 1545) (hen : en ≤ 100) : okk (fX7_greatest S (nI o) (nI n) (nI en)) (fun z => (∃ r, z.2 = nI r ∧ r ≤ mxN (fun k => loE E p (o + k)) n ∧ (r = mxN (fun k => loE E p (o + k)) n ∨ en ≤ r)) ∧ SV E p z.1 ∧ frD S z.1) := by
  unfold fX7_greatest
  have hN5 := qN
  generalize qv_N = N at hN5 ⊢
  simp only [qj_e, qb_e]
  refine ok_lp3 (fun m T x4 x5 => ∃ i, m = n - i ∧ i ≤ n ∧ x5 = nI i ∧ x4 = nI (mxN (fun k => loE E p (o + k)) i) ∧ SV E p T ∧ frD S T) ?_ N n S 0 0 ⟨0, rfl, by omega, rfl, rfl, h, frD_rf⟩ (by omega)
  rintro self m T x4 x5 ⟨i, rfl, hi, rfl, rfl, hT, hf⟩ ih
  have hm : mxN (fun k => loE E p (o + k)) i ≤ 99 := mxN_le _ (fun _ _ => loE_le)
  by_cases hi2 : i = n
  · subst hi2
    exact ok_pos (Int32.le_refl _) (ok_s ⟨⟨_, rfl, Nat.le_refl _, Or.inl rfl⟩, hT, hf⟩)
  · refine ok_neg (nI_ge (by omega) (by omega)) (ok_if (fun g => ok_s ⟨⟨_, rfl, mxN_mono hi, Or.inr ((nI_leI (by omega) (by omega)).mp g)⟩, hT, hf⟩) (fun g => ?_))
    rw [nI_add, nI_1]
    refine ok_cm (noiseC hT (n := o + i) (by omega)) ?_
    rintro S2 r ⟨hr, hS2, hf2⟩
    have hr : r = _ := hr
    have hS2 : SV E p S2 := hS2
    have hf2 : frD T S2 := hf2
    subst hr
    have hl : loE E p (o + i) ≤ 99 := loE_le
    rw [mx_nI (by omega) (by omega)]
    exact ih (n - (i + 1)) _ _ _ (by omega) ⟨i + 1, rfl, by omega, rfl, rfl, hS2, frD_tr hf hf2⟩
theorem clearC {E : sE} {p s n : Nat} {S : qv_St} (h : SV E p S) (hs : s < E.1 9 2) (hn : n + 9 ≤ 1545) : okk (fX7_clearSeconds S (nI s) (nI n)) (fun z => z.2 = nI (bt (clE E p s n) (E.1 17 s)) ∧ SV E p z.1 ∧ frD S z.1) := by
  unfold fX7_clearSeconds
  have hN5 := qN
  generalize qv_N = N at hN5 ⊢
  simp only [qj_e, qb_e]
  have hv := h.1
  have hs6 := hv.1.2.2.1
  have hL := (hv.1.2.2.2.2.2.2.2.2 s hs)
  refine ok_lp3 (fun m T x3 x4 => ∃ i, m = E.1 17 s - i ∧ i ≤ E.1 17 s ∧ x4 = nI i ∧ x3 = nI (bt (clE E p s n) i) ∧ SV E p T ∧ frD S T) ?_ N (E.1 17 s) S 0 0 ⟨0, rfl, by omega, rfl, rfl, h, frD_rf⟩ (by omega)
  rintro self m T x3 x4 ⟨i, rfl, hi, rfl, rfl, hT, hf⟩ ih
  refine ok_ck s rfl (by omega) (by decide) ?_
  rw [qi_cl (by omega), (hT.2.1.1.2.2.2.2.2.2.2.2.1 s hs).1]
  by_cases hi2 : i = E.1 17 s
  · subst hi2
    exact ok_pos (Int32.le_refl _) (ok_s ⟨rfl, hT, hf⟩)
  · refine ok_neg (nI_ge (by omega) (by omega)) ?_
    rw [nI_add, nI_1]
    refine ok_cm (noiseC hT (n := n + i) (by omega)) ?_
    rintro S2 r ⟨hr, hS2, hf2⟩
    have hr : r = _ := hr
    have hS2 : SV E p S2 := hS2
    have hf2 : frD T S2 := hf2
    subst hr
    rw [hS2.2.1.2.1.1, nI_add]
    refine ok_cm (borneC hS2.2.1 hv hs) ?_
    rintro S3 r ⟨hr, hC3, hf3⟩
    have hr : r = _ := hr
    have hC3 : HC E S3 := hC3
    have hf3 : frC S2 S3 := hf3
    subst hr
    have hlo : loE E p (n + i) ≤ 99 := loE_le
    have hbe : beE E s i (E.2.2.2 0 + (n + i)) ≤ 99 := beE_le
    have hS3 := SV_fr hS2 hC3 hf3
    have hf4 := frD_tr hf (frD_tr hf2 (frD_C hf3))
    have hlt := bt_lt (P := clE E p s n) i
    refine ok_if (fun g => ?_) (fun g => ?_)
    · have g := (nI_ltI (by omega) (by omega)).mp g
      refine ih (E.1 17 s - (i + 1)) _ _ _ (by omega) ⟨i + 1, rfl, by omega, rfl, ?_, hS3, hf4⟩
      rw [bt, if_neg, Nat.add_zero]
      unfold clE
      rw [decide_eq_false (by omega)]
      decide
    · have g : ¬ beE E s i (E.2.2.2 0 + (n + i)) < loE E p (n + i) := fun z => g (nI_lt z (by omega))
      rw [or_bit (by omega) hlt]
      refine ih (E.1 17 s - (i + 1)) _ _ _ (by omega) ⟨i + 1, rfl, by omega, rfl, ?_, hS3, hf4⟩
      rw [bt, if_pos]
      unfold clE
      exact decide_eq_true (by omega)
/-! verdicts -/
theorem or_mid {a w i : Nat} (hw : w < 4) (hz : a / 2 ^ i % 4 = 0) : a ||| 2 ^ i * w = a + 2 ^ i * w := by
  have h1 : a = 2 ^ (i + 2) * (a / 2 ^ i / 4) + a % 2 ^ i := by
    have e1 := Nat.div_add_mod a (2 ^ i)
    have e2 := Nat.div_add_mod (a / 2 ^ i) 4
    rw [hz, Nat.add_zero] at e2
    rw [Nat.pow_add, Nat.mul_assoc, show (2 : Nat) ^ 2 = 4 from rfl, e2, e1]
  have hlo : a % 2 ^ i < 2 ^ i := Nat.mod_lt _ (Nat.two_pow_pos i)
  have hlt : 2 ^ i * w + a % 2 ^ i < 2 ^ (i + 2) := by
    have : 2 ^ i * w ≤ 2 ^ i * 3 := Nat.mul_le_mul_left _ (by omega)
    rw [Nat.pow_add, show (2 : Nat) ^ 2 = 4 from rfl]
    omega
  have e3 := Nat.two_pow_add_eq_or_of_lt (i := i + 2) (b := a % 2 ^ i) (by rw [Nat.pow_add]; omega) (a / 2 ^ i / 4)
  have e4 := Nat.two_pow_add_eq_or_of_lt hlo w
  have e5 := Nat.two_pow_add_eq_or_of_lt (i := i + 2) hlt (a / 2 ^ i / 4)
  have key : a ||| 2 ^ i * w = 2 ^ (i + 2) * (a / 2 ^ i / 4) + (2 ^ i * w + a % 2 ^ i) := by
    rw [e5, e4, ← Nat.or_assoc, Nat.or_assoc _ _ (a % 2 ^ i), Nat.or_comm (2 ^ i * w), ← Nat.or_assoc, ← e3, ← h1]
  rw [key]
  omega
theorem lt6 {P : Nat → Prop} (h : P 0 ∧ P 1 ∧ P 2 ∧ P 3 ∧ P 4 ∧ P 5) : ∀ j, j < 6 → P j := by
  intro j hj
  obtain ⟨h0, h1, h2, h3, h4, h5⟩ := h
  rcases (by omega : j = 0 ∨ j = 1 ∨ j = 2 ∨ j = 3 ∨ j = 4 ∨ j = 5) with rfl | rfl | rfl | rfl | rfl | rfl <;> assumption
theorem vd_div {v : Nat → Nat} (hv : ∀ s, s < 6 → v s ≤ 2) : ∀ s, s < 6 → vdN v / 2 ^ (2 * s) % 4 = v s := by
  have h0 := hv 0 (by decide)
  have h1 := hv 1 (by decide)
  have h2 := hv 2 (by decide)
  have h3 := hv 3 (by decide)
  have h4 := hv 4 (by decide)
  have h5 := hv 5 (by decide)
  unfold vdN
  exact lt6 ⟨by simp only [Nat.mul_zero, Nat.pow_zero]; omega, by simp only [Nat.mul_one, Nat.reducePow]; omega, by simp only [Nat.reduceMul, Nat.reducePow]; omega, by simp only [Nat.reduceMul, Nat.reducePow]; omega, by simp only [Nat.reduceMul, Nat.reducePow]; omega, by simp only [Nat.reduceMul, Nat.reducePow]; omega⟩
theorem vd_le {v : Nat → Nat} (hv : ∀ s, s < 6 → v s ≤ 2) : vdN v < 4096 := by
  have h0 := hv 0 (by decide)
  have h1 := hv 1 (by decide)
  have h2 := hv 2 (by decide)
  have h3 := hv 3 (by decide)
  have h4 := hv 4 (by decide)
  have h5 := hv 5 (by decide)
  unfold vdN
  omega
theorem sh2 : ∀ s, s < 6 → ((2 * nI s &&& 31).toBitVec.smod 32).toNat = 2 * s := by decide
theorem vd_get {v : Nat → Nat} (hv : ∀ s, s < 6 → v s ≤ 2) {s : Nat} (hs : s < 6) : (nI (vdN v) >>> (2 * nI s &&& 31)) &&& 3 = nI (v s) := by
  have := vd_le hv
  rw [pk_shrN (by omega) _ (2 * s) (sh2 s hs), pk_andN (Nat.lt_of_le_of_lt (Nat.div_le_self _ _) (by omega)) 2 (by decide)]
  rw [show (2 : Nat) ^ 2 = 4 from rfl, vd_div hv s hs]
theorem vd_set {v : Nat → Nat} (hv : ∀ s, s < 6 → v s ≤ 2) {s w : Nat} (hs : s < 6) (hz : v s = 0) (hw : w ≤ 2) : nI (vdN v) ||| (nI w <<< (2 * nI s &&& 31)) = nI (vdN (fun j => if j = s then w else v j)) := by
  have h4 : 2 ^ (2 * s) ≤ 1024 := Nat.pow_le_pow_right (n := 2) (by decide) (show 2 * s ≤ 10 by omega)
  have h5 : w * 2 ^ (2 * s) ≤ 2 * 1024 := Nat.mul_le_mul hw h4
  rw [pk_shlN (n := w) _ (2 * s) (sh2 s hs) (by omega), Nat.mul_comm w, nI_or, or_mid (by omega) (by rw [vd_div hv s hs, hz])]
  congr 1
  have go : ∀ s, s < 6 → v s = 0 → vdN v + 2 ^ (2 * s) * w = vdN (fun j => if j = s then w else v j) := by
    unfold vdN
    exact lt6 ⟨fun z => by simp; omega, fun z => by simp; omega, fun z => by simp; omega, fun z => by simp; omega, fun z => by simp; omega, fun z => by simp; omega⟩
  exact go s hs hz
theorem vdOK_le {E : sE} {p n : Nat} {v : Nat → Nat} (h : ∀ s, s < 6 → v s = 0 ∨ v s = if goE E p s n = true then 1 else 2) : ∀ s, s < 6 → v s ≤ 2 := by
  intro s hs
  rcases h s hs with g | g
  · omega
  · rw [g]; split <;> omega
def fgR (E : sE) (p s a b : Nat) : Int32 := if fs (fun n => goE E p s n) a (b + 1 - a) < b + 1 then nI (fs (fun n => goE E p s n) a (b + 1 - a)) else -2
theorem goodC {E : sE} {p s a b : Nat} {S : qv_St} {lat : Int32} (h : SV E p S) (hs : s < E.1 9 2) (hlat : lat = nI b - 1) (hb : b + 8 ≤ 1545) (ha : a ≤ 1545) : okk (fX7_firstGood S (nI s) (nI a) lat) (fun z => z.2 = (if fs (fun n => goE E p s n) a (b - a) < b then nI (fs (fun n => goE E p s n) a (b - a)) else -2) ∧ SV E p z.1 ∧ frD S z.1) := by
  unfold fX7_firstGood
  have hN5 := qN
  generalize qv_N = N at hN5 ⊢
  simp only [qj_e, qb_e]
  have hv := h.1
  have hs6 := hv.1.2.2.1
  have hL := (hv.1.2.2.2.2.2.2.2.2 s hs)
  subst hlat
  rw [show qv_mx 0 (nI a) = nI a from by rw [show (0 : Int32) = nI 0 from rfl, mx_nI (by omega) (by omega), Nat.zero_max]]
  have hlt : ∀ i, i < 3000 → (nI b - 1 < nI i ↔ b ≤ i) := by
    intro i hi
    rw [Int32.lt_iff_toInt_lt, show (1 : Int32) = nI 1 from rfl, pk_sub_toInt (by omega) (by omega), nI_toInt (by omega)]
    omega
  refine ok_lp2 (fun m T x5 => ∃ i, m = 1545 - i ∧ a ≤ i ∧ i ≤ max a b ∧ x5 = nI i ∧ (∀ k, a ≤ k → k < i → goE E p s k = false) ∧ SV E p T ∧ frD S T) ?_ N (1545 - a) S (nI a) ⟨a, rfl, by omega, by omega, rfl, fun k hk => by omega, h, frD_rf⟩ (by omega)
  rintro self m T x5 ⟨i, rfl, hi0, hi, rfl, hgo, hT, hf⟩ ih
  refine ok_if (fun g => ok_s ⟨?_, hT, hf⟩) (fun g => ?_)
  · have g := (hlt i (by omega)).mp g
    show -2 = _
    rw [if_neg]
    intro z
    obtain ⟨g1, g2, g3, g4⟩ := fs_spec (P := fun n => goE E p s n) (b - a) a
    have g5 := hgo _ g1 (by omega)
    have g6 := g4 (by omega)
    rw [g5] at g6
    cases g6
  · have g : i < b := by
      have : ¬ b ≤ i := fun z => g ((hlt i (by omega)).mpr z)
      omega
    refine ok_neg (show ¬ (1545 : Int32) ≤ nI i from nI_ge (b := 1545) (by omega) (by decide)) (ok_ck i rfl (by omega) (by decide) ?_)
    rw [qi_cl (by omega)]
    obtain ⟨v, hv1, hv2⟩ := hT.2.2.2.2.2 i (by omega)
    rw [hv1, vd_get (vdOK_le hv2) (by omega), nI_1]
    have fin : ∀ T2, SV E p T2 → frD S T2 → ∀ w, (w = if goE E p s i = true then 1 else 2) → okk (if nI w = 1 then some (T2, nI i) else self T2 (nI (i + 1))) (fun z => z.2 = (if fs (fun n => goE E p s n) a (b - a) < b then nI (fs (fun n => goE E p s n) a (b - a)) else -2) ∧ SV E p z.1 ∧ frD S z.1) := by
      intro T2 hT2 hf2 w hw
      by_cases hg : goE E p s i = true
      · rw [if_pos hg] at hw
        subst hw
        refine ok_pos rfl (ok_s ⟨?_, hT2, hf2⟩)
        have e : fs (fun n => goE E p s n) a (b - a) = i := fs_uniq hi0 (by omega) hgo (fun _ => hg)
        show nI i = _
        rw [e, if_pos g]
      · rw [if_neg hg] at hw
        subst hw
        refine ok_neg (by decide) (ih (1545 - (i + 1)) _ _ (by omega) ⟨i + 1, rfl, by omega, by omega, rfl, fun k h1 h2 => ?_, hT2, hf2⟩)
        by_cases e : k = i
        · subst e; simpa using hg
        · exact hgo k h1 (by omega)
    refine ok_if (fun g0 => ?_) (fun g0 => ?_)
    · have hz : v s = 0 := (nI_eq (by have := vdOK_le hv2 s (by omega); omega) (by decide)).mp g0
      refine ok_cm (unclearC hT hs (n := i) (by omega)) ?_
      rintro S3 r ⟨hr, hS3, hf3⟩
      have hr : r = _ := hr
      have hS3 : SV E p S3 := hS3
      have hf3 : frD T S3 := hf3
      subst hr
      obtain ⟨v3, hv31, hv32⟩ := hS3.2.2.2.2.2 i (by omega)
      have fin2 : ∀ w : Nat, (w = if goE E p s i = true then 1 else 2) → okk (qv_ck (nI i) 1545 (qv_ck (nI i) 1545 (if nI w = 1 then some (qv_si S3 262 i (S3.1 262 i ||| nI w <<< (2 * nI s &&& 31)), nI i) else self (qv_si S3 262 i (S3.1 262 i ||| nI w <<< (2 * nI s &&& 31))) (nI (i + 1))))) (fun z => z.2 = (if fs (fun n => goE E p s n) a (b - a) < b then nI (fs (fun n => goE E p s n) a (b - a)) else -2) ∧ SV E p z.1 ∧ frD S z.1) := by
        intro w hw
        have hw2 : w ≤ 2 := by rw [hw]; split <;> omega
        have hvv : ∃ x : Int32, S3.1 262 i ||| nI w <<< (2 * nI s &&& 31) = x ∧ vdOK E p i x := by
          refine ⟨_, rfl, ?_⟩
          rw [hv31]
          rcases hv32 s (by omega) with z3 | z3
          · refine ⟨fun j => if j = s then w else v3 j, vd_set (vdOK_le hv32) (by omega) z3 hw2, fun j hj => ?_⟩
            by_cases e : j = s
            · subst e
              exact Or.inr (by show (if j = j then w else v3 j) = _; rw [if_pos rfl]; exact hw)
            · show (if j = s then w else v3 j) = 0 ∨ (if j = s then w else v3 j) = _
              rw [if_neg e]
              exact hv32 j hj
          · refine ⟨v3, ?_, hv32⟩
            have hd := vd_div (vdOK_le hv32) s (by omega)
            have hwv : v3 s = w := by rw [z3, hw]
            have h4 : 2 ^ (2 * s) ≤ 1024 := Nat.pow_le_pow_right (n := 2) (by decide) (show 2 * s ≤ 10 by omega)
            have h5 : w * 2 ^ (2 * s) ≤ 2 * 1024 := Nat.mul_le_mul hw2 h4
            rw [pk_shlN (n := w) _ (2 * s) (sh2 s (by omega)) (by omega), nI_or]
            congr 1
            apply Nat.eq_of_testBit_eq
            intro j
            rw [Nat.testBit_or, Nat.testBit_mul_two_pow]
            by_cases hj : 2 * s ≤ j
            · by_cases hj2 : j - 2 * s < 2
              · have : (vdN v3).testBit j = w.testBit (j - 2 * s) := by
                  have h8 : (vdN v3 / 2 ^ (2 * s) % 2 ^ 2).testBit (j - 2 * s) = w.testBit (j - 2 * s) := by rw [show (2 : Nat) ^ 2 = 4 from rfl, hd, hwv]
                  rw [Nat.testBit_mod_two_pow, Nat.testBit_div_two_pow, decide_eq_true hj2, Bool.true_and] at h8
                  rw [← h8]
                  congr 1
                  omega
                rw [this, decide_eq_true hj, Bool.true_and, Bool.or_self]
              · rw [Nat.testBit_lt_two_pow (x := w) (i := j - 2 * s) (Nat.lt_of_lt_of_le (show w < 2 ^ 2 by omega) (Nat.pow_le_pow_right (by decide) (by omega))), Bool.and_false, Bool.or_false]
            · rw [decide_eq_false hj, Bool.false_and, Bool.or_false]
        obtain ⟨x, hx1, hx2⟩ := hvv
        rw [hx1, qs_si]
        refine ok_ck i rfl (by omega) (by decide) (ok_ck i rfl (by omega) (by decide) (fin _ ⟨hv, HC_keep hS3.2.1 (fun q hq => qs_ne (by omega)), ?_, hS3.2.2.2.1, fun j hj => ?_, fun j hj => ?_⟩ ?_ w hw))
        · rw [qs_ne (by decide)]; exact hS3.2.2.1
        · rw [qs_ne (by decide)]; exact hS3.2.2.2.2.1 j hj
        · rw [qs_eq]
          by_cases e : j = i
          · subst e; rw [upd_eq]; exact hx2
          · rw [upd_ne e]; exact hS3.2.2.2.2.2 j hj
        · exact frD_tr (frD_tr hf hf3) ⟨rfl, fun q a b c d => qs_ne (by omega)⟩
      unfold fuR
      by_cases hfu : fuE E p s i = E.1 17 s
      · rw [if_pos hfu]
        refine ok_neg (by decide) (fin2 1 ?_)
        rw [if_pos (fu_go.mpr hfu)]
      · rw [if_neg hfu]
        obtain ⟨g1, g2, g3, g4⟩ := fs_spec (P := fun k => !clE E p s i k) (E.1 17 s) 0
        refine ok_pos (nI_pos' (by unfold fuE; omega)) (fin2 2 ?_)
        rw [if_neg (fun z => hfu (fu_go.mp z))]
    · rcases hv2 s (by omega) with z | z
      · exact absurd (by rw [z]; rfl) g0
      · exact fin T hT hf _ z
theorem goodWC {E : sE} {p s b j : Nat} {S : qv_St} {lat : Int32} (h : SV E p S) (hs : s < E.1 9 2) (hj : j < 8) (hlat : lat = nI b - 1) (hb : b + 8 ≤ 1545) : okk (fX7_firstGoodWithout S (nI j) (nI s) lat) (fun z => z.2 = (if fs (fun n => goE (payE E j) p s n) 0 b < b then nI (fs (fun n => goE (payE E j) p s n) 0 b) else -2) ∧ SV E p z.1 ∧ frD S z.1) := by
  unfold fX7_firstGoodWithout
  have hN5 := qN
  generalize qv_N = N at hN5 ⊢
  have hv := h.1
  have hL := (hv.1.2.2.2.2.2.2.2.2 s hs)
  subst hlat
  have hlt : ∀ i, i < 3000 → (nI b - 1 < nI i ↔ b ≤ i) := by
    intro i hi
    rw [Int32.lt_iff_toInt_lt, show (1 : Int32) = nI 1 from rfl, pk_sub_toInt (by omega) (by omega), nI_toInt (by omega)]
    omega
  refine ok_lp2 (fun m T x5 => ∃ i, m = b - i ∧ i ≤ b ∧ x5 = nI i ∧ (∀ k, k < i → goE (payE E j) p s k = false) ∧ SV E p T ∧ frD S T) ?_ N b S 0 ⟨0, rfl, by omega, rfl, fun k hk => by omega, h, frD_rf⟩ (by omega)
  rintro self m T x5 ⟨i, rfl, hi, rfl, hgo, hT, hf⟩ ih
  refine ok_if (fun g => ok_s ⟨?_, hT, hf⟩) (fun g => ?_)
  · have g := (hlt i (by omega)).mp g
    show -2 = _
    rw [if_neg]
    intro z
    obtain ⟨g1, g2, g3, g4⟩ := fs_spec (P := fun n => goE (payE E j) p s n) b 0
    have g5 := hgo _ (show fs (fun n => goE (payE E j) p s n) 0 b < i by omega)
    have g6 := g4 (by omega)
    rw [g5] at g6
    cases g6
  · have g : i < b := by
      have : ¬ b ≤ i := fun z => g ((hlt i (by omega)).mpr z)
      omega
    refine ok_cm (unclearP hT hs (n := i) (by omega) hj) ?_
    rintro S3 r ⟨hr, hS3, hf3⟩
    have hr : r = _ := hr
    have hS3 : SV E p S3 := hS3
    have hf3 : frD T S3 := hf3
    subst hr
    rw [nI_1]
    unfold fuR
    by_cases hfu : fuE (payE E j) p s i = (payE E j).1 17 s
    · rw [if_pos hfu]
      refine ok_neg (by decide) (ok_s ⟨?_, hS3, frD_tr hf hf3⟩)
      have e : fs (fun n => goE (payE E j) p s n) 0 b = i := fs_uniq (by omega) (by omega) (fun k _ h2 => hgo k h2) (fun _ => fu_go.mpr hfu)
      show nI i = _
      rw [e, if_pos g]
    · rw [if_neg hfu]
      obtain ⟨g1, g2, g3, g4⟩ := fs_spec (P := fun k => !clE (payE E j) p s i k) ((payE E j).1 17 s) 0
      have hL2 : (payE E j).1 17 s = E.1 17 s := rfl
      refine ok_pos (nI_pos' (by unfold fuE; omega)) (ih (b - (i + 1)) _ _ (by omega) ⟨i + 1, rfl, by omega, rfl, fun k h2 => ?_, hS3, frD_tr hf hf3⟩)
      by_cases e : k = i
      · subst e
        cases hg : goE (payE E j) p s k with
        | false => rfl
        | true => exact absurd (fu_go.mp hg) hfu
      · exact hgo k (by omega)
