/-! bits, first ones, sounds -/
theorem nI_or (a b : Nat) : nI a ||| nI b = nI (a ||| b) := by
  apply Int32.toBitVec_inj.mp
  exact (BitVec.ofNat_or (w := 32) (x := a) (y := b)).symm
theorem nI_and (a b : Nat) : nI a &&& nI b = nI (a &&& b) := by
  apply Int32.toBitVec_inj.mp
  exact (BitVec.ofNat_and (w := 32) (x := a) (y := b)).symm
theorem or_add {a i b : Nat} (h : a < 2 ^ i) : nI a ||| nI (2 ^ i * b) = nI (2 ^ i * b + a) := by
  rw [nI_or, Nat.or_comm, Nat.two_pow_add_eq_or_of_lt h]
theorem sh1 : ∀ k, k < 16 → (1 : Int32) <<< (nI k &&& 31) = nI (2 ^ k) := by decide
theorem sh1m : ∀ k, k < 16 → (1 : Int32) <<< (nI k &&& 31) - 1 = nI (2 ^ k - 1) := by decide
theorem or_bit {a k : Nat} (hk : k < 16) (h : a < 2 ^ k) : nI a ||| (1 : Int32) <<< (nI k &&& 31) = nI (a + 2 ^ k) := by
  rw [sh1 k hk, nI_or, Nat.or_two_pow_eq_add_of_lt h]
def bt (P : Nat → Bool) : Nat → Nat
  | 0 => 0
  | n + 1 => bt P n + if P n = true then 2 ^ n else 0
theorem bt_lt {P : Nat → Bool} : ∀ n, bt P n < 2 ^ n
  | 0 => Nat.zero_lt_one
  | n + 1 => by
    have := bt_lt (P := P) n
    rw [bt, Nat.pow_succ]
    split <;> omega
theorem bt_congr {P Q : Nat → Bool} : ∀ n, (∀ k, k < n → P k = Q k) → bt P n = bt Q n
  | 0, _ => rfl
  | n + 1, h => by rw [bt, bt, h n (by omega), bt_congr n (fun k hk => h k (by omega))]
theorem bt_all {P : Nat → Bool} : ∀ n, bt P n = 2 ^ n - 1 ↔ ∀ k, k < n → P k = true
  | 0 => ⟨fun _ k hk => by omega, fun _ => rfl⟩
  | n + 1 => by
    have h1 := bt_lt (P := P) n
    have h2 := bt_all (P := P) n
    have h3 : 0 < 2 ^ n := Nat.two_pow_pos n
    rw [bt, Nat.pow_succ]
    constructor
    · intro h k hk
      by_cases hp : P n = true
      · rw [if_pos hp] at h
        by_cases e : k = n
        · subst e; exact hp
        · exact h2.mp (by omega) k (by omega)
      · rw [if_neg hp] at h
        omega
    · intro h
      rw [if_pos (h n (by omega)), h2.mpr (fun k hk => h k (by omega))]
      omega
theorem bt_test {P : Nat → Bool} : ∀ n k, k < n → (bt P n / 2 ^ k % 2 = 1 ↔ P k = true)
  | n + 1, k, hk => by
    rw [bt]
    have h1 := bt_lt (P := P) n
    by_cases e : k = n
    · subst e
      by_cases hp : P k = true
      · rw [if_pos hp, Nat.add_div_right _ (Nat.two_pow_pos k), Nat.div_eq_of_lt h1]
        exact ⟨fun _ => hp, fun _ => rfl⟩
      · rw [if_neg hp, Nat.add_zero, Nat.div_eq_of_lt h1]
        exact ⟨fun h => absurd h (by decide), fun h => absurd h hp⟩
    · rw [← bt_test n k (by omega)]
      by_cases hp : P n = true
      · rw [if_pos hp]
        have e2 : 2 ^ n = 2 ^ k * (2 * 2 ^ (n - k - 1)) := by
          rw [← Nat.mul_assoc, ← Nat.pow_succ, ← Nat.pow_add]
          congr 1
          omega
        rw [e2, Nat.add_mul_div_left _ _ (Nat.two_pow_pos k), Nat.add_mul_mod_self_left]
      · rw [if_neg hp, Nat.add_zero]
def fs (P : Nat → Bool) : Nat → Nat → Nat
  | i, 0 => i
  | i, m + 1 => if P i = true then i else fs P (i + 1) m
theorem fs_spec {P : Nat → Bool} : ∀ m i, i ≤ fs P i m ∧ fs P i m ≤ i + m ∧ (∀ j, i ≤ j → j < fs P i m → P j = false) ∧ (fs P i m < i + m → P (fs P i m) = true)
  | 0, i => ⟨Nat.le_refl _, Nat.le_refl _, fun j h1 h2 => by simp only [fs] at h2; omega, fun h => by simp only [fs] at h; omega⟩
  | m + 1, i => by
    rw [fs]
    by_cases h : P i = true
    · rw [if_pos h]
      exact ⟨Nat.le_refl _, by omega, fun j h1 h2 => by omega, fun _ => h⟩
    · rw [if_neg h]
      obtain ⟨h1, h2, h3, h4⟩ := fs_spec (P := P) m (i + 1)
      refine ⟨by omega, by omega, fun j g1 g2 => ?_, fun g => h4 (by omega)⟩
      by_cases e : j = i
      · subst e; simpa using h
      · exact h3 j (by omega) g2
theorem fs_uniq {P : Nat → Bool} {m i j : Nat} (h1 : i ≤ j) (h2 : j ≤ i + m) (h3 : ∀ k, i ≤ k → k < j → P k = false) (h4 : j < i + m → P j = true) : fs P i m = j := by
  obtain ⟨g1, g2, g3, g4⟩ := fs_spec (P := P) m i
  rcases Nat.lt_trichotomy (fs P i m) j with h | h | h
  · have := h3 _ g1 h
    rw [g4 (by omega)] at this
    cases this
  · exact h
  · have := g3 j h1 h
    rw [h4 (by omega)] at this
    cases this
theorem fs_congr {P Q : Nat → Bool} : ∀ m i, (∀ k, i ≤ k → k < i + m → P k = Q k) → fs P i m = fs Q i m
  | 0, _, _ => rfl
  | m + 1, i, h => by rw [fs, fs, h i (by omega) (by omega), fs_congr m (i + 1) (fun k h1 h2 => h k (by omega) (by omega))]
theorem mx_nI {a b : Nat} (ha : a < 2 ^ 31) (hb : b < 2 ^ 31) : qv_mx (nI a) (nI b) = nI (max a b) := by
  unfold qv_mx
  by_cases h : a < b
  · rw [if_pos (nI_lt h hb), Nat.max_eq_right (by omega)]
  · rw [if_neg (nI_nlt (by omega) ha), Nat.max_eq_left (by omega)]
theorem mn_nI {a b : Nat} (ha : a < 2 ^ 31) (hb : b < 2 ^ 31) : qv_mn (nI a) (nI b) = nI (min a b) := by
  unfold qv_mn
  by_cases h : b < a
  · rw [if_pos (nI_lt h ha), Nat.min_eq_right (by omega)]
  · rw [if_neg (nI_nlt (by omega) hb), Nat.min_eq_left (by omega)]
/-- the most, the next most, the one that leads and 1 more -/
def sN (f : Nat → Nat) : Nat → Nat × Nat × Nat
  | 0 => (0, 0, 0)
  | n + 1 => if f n ≤ (sN f n).1 then ((sN f n).1, max (sN f n).2.1 (f n), (sN f n).2.2) else (f n, (sN f n).1, n + 1)
theorem sN_1 {f : Nat → Nat} : ∀ n, (sN f n).1 = mxN f n
  | 0 => rfl
  | n + 1 => by
    rw [sN, mxN]
    have h := sN_1 (f := f) n
    by_cases h1 : f n ≤ (sN f n).1
    · rw [if_pos h1]
      show (sN f n).1 = _
      rw [h] at h1 ⊢
      rw [Nat.max_eq_left h1]
    · rw [if_neg h1]
      show f n = _
      rw [h] at h1
      rw [Nat.max_eq_right (by omega)]
theorem sN_le {f : Nat → Nat} {m : Nat} : ∀ n, (∀ k, k < n → f k ≤ m) → (sN f n).1 ≤ m ∧ (sN f n).2.1 ≤ m ∧ (sN f n).2.2 ≤ n
  | 0, _ => ⟨Nat.zero_le _, Nat.zero_le _, Nat.zero_le _⟩
  | n + 1, h => by
    obtain ⟨h1, h2, h3⟩ := sN_le n (fun k hk => h k (by omega))
    have h4 := h n (by omega)
    rw [sN]
    by_cases h5 : f n ≤ (sN f n).1
    · rw [if_pos h5]
      exact ⟨h1, Nat.max_le.mpr ⟨h2, h4⟩, Nat.le_succ_of_le h3⟩
    · rw [if_neg h5]
      exact ⟨h4, h1, Nat.le_refl _⟩
/-- who leads -/
theorem sN_3 {f : Nat → Nat} : ∀ n, ((sN f n).2.2 = 0 ∧ ∀ o, o < n → f o = 0) ∨ (∃ k, (sN f n).2.2 = k + 1 ∧ k < n ∧ f k = (sN f n).1 ∧ 0 < f k ∧ (∀ o, o < n → f o ≤ f k) ∧ (∀ o, o < k → f o < f k))
  | 0 => Or.inl ⟨rfl, fun o h => by omega⟩
  | n + 1 => by
    rw [sN]
    rcases sN_3 (f := f) n with ⟨h1, h2⟩ | ⟨k, h1, h2, h3, h4, h5, h6⟩
    · have h0 : (sN f n).1 = 0 := by
        rw [sN_1]
        have := mxN_le (f := f) (m := 0) n (fun k hk => by rw [h2 k hk]; exact Nat.le_refl _)
        omega
      by_cases h7 : f n ≤ (sN f n).1
      · rw [if_pos h7]
        refine Or.inl ⟨h1, fun o ho => ?_⟩
        by_cases e : o = n
        · subst e; omega
        · exact h2 o (by omega)
      · rw [if_neg h7]
        refine Or.inr ⟨n, rfl, by omega, rfl, by omega, fun o ho => ?_, fun o ho => ?_⟩
        · by_cases e : o = n
          · subst e; exact Nat.le_refl _
          · rw [h2 o (by omega)]; exact Nat.zero_le _
        · rw [h2 o ho]; omega
    · by_cases h7 : f n ≤ (sN f n).1
      · rw [if_pos h7]
        refine Or.inr ⟨k, h1, by omega, h3, h4, fun o ho => ?_, h6⟩
        by_cases e : o = n
        · subst e; omega
        · exact h5 o (by omega)
      · rw [if_neg h7]
        refine Or.inr ⟨n, rfl, by omega, rfl, by omega, fun o ho => ?_, fun o ho => ?_⟩
        · by_cases e : o = n
          · subst e; exact Nat.le_refl _
          · have := h5 o (by omega); omega
        · have := h5 o (by omega); omega
/-- the most without one -/
theorem mxN_congr {f g : Nat → Nat} : ∀ n, (∀ k, k < n → f k = g k) → mxN f n = mxN g n
  | 0, _ => rfl
  | n + 1, h => by rw [mxN, mxN, h n (by omega), mxN_congr n (fun k hk => h k (by omega))]
theorem sN_2 {f : Nat → Nat} (j : Nat) : ∀ n, (if (sN f n).2.2 = j + 1 then (sN f n).2.1 else (sN f n).1) = mxN (fun k => if k = j then 0 else f k) n
  | 0 => rfl
  | n + 1 => by
    have ih := sN_2 (f := f) j n
    have h1 := sN_1 (f := f) n
    have hl := (sN_le (f := f) (m := mxN f n) n (fun k hk => le_mxN n k hk)).2.2
    rw [mxN, ← ih, sN]
    by_cases h7 : f n ≤ (sN f n).1
    · rw [if_pos h7]
      show (if (sN f n).2.2 = j + 1 then max (sN f n).2.1 (f n) else (sN f n).1) = _
      by_cases h8 : (sN f n).2.2 = j + 1
      · rw [if_pos h8, if_pos h8, if_neg (by omega)]
      · rw [if_neg h8, if_neg h8]
        by_cases h9 : n = j
        · rw [if_pos h9]; omega
        · rw [if_neg h9]; omega
    · rw [if_neg h7]
      show (if n + 1 = j + 1 then (sN f n).1 else f n) = _
      by_cases h9 : n = j
      · rw [if_pos (by omega), if_pos h9, if_neg (by omega)]; omega
      · rw [if_neg (by omega), if_neg h9]
        have h10 : (sN f n).2.1 ≤ (sN f n).1 := by
          have := (sN_le (f := f) (m := mxN f n) n (fun k hk => le_mxN n k hk)).2.1
          omega
        by_cases h8 : (sN f n).2.2 = j + 1
        · rw [if_pos h8]; omega
        · rw [if_neg h8]; omega
def pkS (t x l r : Nat) : Nat := 524288 + 262144 * r + 16384 * l + 128 * x + t
theorem pack_eq {t x l r : Nat} (ht : t < 128) (hx : x < 128) (hl : l < 16) (hr : r ≤ 1) : (((nI t ||| (nI x <<< (7 &&& 31))) ||| (nI l <<< (14 &&& 31))) ||| nI (262144 * r)) ||| 524288 = nI (pkS t x l r) := by
  rw [pk_shlN (n := x) (7 &&& 31) 7 (by decide) (by omega), pk_shlN (n := l) (14 &&& 31) 14 (by decide) (by omega), Nat.mul_comm x, Nat.mul_comm l, or_add (i := 7) (by omega), or_add (i := 14) (by omega), show 262144 * r = 2 ^ 18 * r from rfl, or_add (i := 18) (by omega), show (524288 : Int32) = nI (2 ^ 19 * 1) from rfl, or_add (i := 19) (by omega)]
  congr 1
  unfold pkS
  omega
theorem nw_rust {t x l r : Nat} (ht : t < 128) (hx : x < 128) (hl : l < 16) (hr : r ≤ 1) : fX7_rustlingOf (nI (pkS t x l r)) = some (nI (50 * r)) := by
  unfold fX7_rustlingOf
  have e : pkS t x l r / 2 ^ 18 % 2 = r := by unfold pkS; omega
  rw [show (262144 : Int32) = nI (2 ^ 18) from rfl, nI_and]
  have key : (pkS t x l r &&& 2 ^ 18).testBit 18 = decide (r = 1) := by
    rw [Nat.testBit_and, Nat.testBit_two_pow_self, Bool.and_true, Nat.testBit_eq_decide_div_mod_eq, e]
  by_cases h : r = 1
  · subst h
    have h2 : pkS t x l 1 &&& 2 ^ 18 ≠ 0 := by
      intro z
      rw [z, Nat.zero_testBit] at key
      cases key
    have h3 : pkS t x l 1 &&& 2 ^ 18 ≤ 2 ^ 18 := Nat.and_le_right
    rw [if_neg (nI_ne0 (by omega) (by omega))]
    rfl
  · have h0 : r = 0 := by omega
    subst h0
    have h2 : pkS t x l 0 &&& 2 ^ 18 = 0 := by
      apply Nat.eq_of_testBit_eq
      intro i
      rw [Nat.zero_testBit]
      by_cases hi : i = 18
      · subst hi; exact key
      · rw [Nat.testBit_and, Nat.testBit_two_pow_of_ne (fun z => hi z.symm), Bool.and_false]
    rw [h2, if_pos (show nI 0 = 0 from rfl)]
    rfl
theorem nw_top {t x l r : Nat} (ht : t < 128) (hx : x < 128) (hl : l < 16) (hr : r ≤ 1) : fX7_topOf (nI (pkS t x l r)) = some (nI t) := by
  unfold fX7_topOf
  rw [pk_andN (n := pkS t x l r) (by unfold pkS; omega) 7 (by decide)]
  congr 2
  unfold pkS
  omega
theorem nw_next {t x l r : Nat} (ht : t < 128) (hx : x < 128) (hl : l < 16) (hr : r ≤ 1) : (nI (pkS t x l r) >>> (7 &&& 31)) &&& 127 = nI x := by
  rw [pk_shrN (n := pkS t x l r) (by unfold pkS; omega) (7 &&& 31) 7 (by decide), pk_andN (by unfold pkS; omega) 7 (by decide)]
  congr 1
  unfold pkS
  omega
theorem nw_lead {t x l r : Nat} (ht : t < 128) (hx : x < 128) (hl : l < 16) (hr : r ≤ 1) : fX7_leaderOf (nI (pkS t x l r)) = some (nI l - 1) := by
  unfold fX7_leaderOf
  rw [pk_shrN (n := pkS t x l r) (by unfold pkS; omega) (14 &&& 31) 14 (by decide), pk_andN (by unfold pkS; omega) 4 (by decide)]
  congr 3
  unfold pkS
  omega
theorem lead_eq {l k : Nat} (hl : l < 16) (hk : k < 2 ^ 30) : nI k = nI l - 1 ↔ l = k + 1 := by
  constructor
  · intro h
    have := congrArg Int32.toInt h
    rw [nI_toInt (by omega), show (1 : Int32) = nI 1 from rfl, pk_sub_toInt (by omega) (by omega)] at this
    omega
  · rintro rfl
    exact (nI_pred k).symm
theorem nw_none {t x l r : Nat} (ht : t < 128) (hx : x < 128) (hl : l < 16) (hr : r ≤ 1) : fX7_noiseWithout (-1) (nI (pkS t x l r)) = some (nI (max (50 * r) t)) := by
  unfold fX7_noiseWithout
  simp only [qj_e]
  rw [if_pos (by decide), nw_rust ht hx hl hr, Option.bind_some, if_pos trivial, nw_top ht hx hl hr, Option.bind_some, mx_nI (by omega) (by omega)]
theorem nw_one {t x l r k : Nat} (ht : t < 128) (hx : x < 128) (hl : l < 16) (hr : r ≤ 1) (hk : k < 16) : fX7_noiseWithout (nI k) (nI (pkS t x l r)) = some (nI (max (50 * r) (if l = k + 1 then x else t))) := by
  unfold fX7_noiseWithout
  simp only [qj_e]
  rw [if_neg (nI_pos (by omega)), nw_lead ht hx hl hr, Option.bind_some, nw_rust ht hx hl hr, Option.bind_some, Option.bind_some, nw_top ht hx hl hr, Option.bind_some]
  by_cases h : l = k + 1
  · rw [if_pos ((lead_eq hl (by omega)).mpr h), if_pos h, if_neg (by decide), nw_next ht hx hl hr, mx_nI (by omega) (by omega)]
  · rw [if_neg (fun z => h ((lead_eq hl (by omega)).mp z)), if_neg h, mx_nI (by omega) (by omega), if_pos trivial]
