/-! STEP B: pure reasoning. Loops by a measure; whole cells set; numbers. -/
theorem qm1 {A1 ρ : Type} {f : (A1 → Option ρ) → A1 → Option ρ} (R : A1 → Option ρ) (μ : A1 → Nat) (I : A1 → Prop) (hs : ∀ self a, I a → (∀ a', I a' → μ a' < μ a → self a' = R a') → f self a = R a) : ∀ N a, I a → μ a < N → qv_lp1 N f a = R a := by
  intro N
  induction N with
  | zero => intro a _ h; omega
  | succ N ih => intro a hI h; exact hs _ a hI (fun a' h1 h2 => ih a' h1 (by omega))
theorem qm2 {A1 A2 ρ : Type} {f : (A1 → A2 → Option ρ) → A1 → A2 → Option ρ} (R : A1 → A2 → Option ρ) (μ : A1 → A2 → Nat) (I : A1 → A2 → Prop) (hs : ∀ self a b, I a b → (∀ a' b', I a' b' → μ a' b' < μ a b → self a' b' = R a' b') → f self a b = R a b) : ∀ N a b, I a b → μ a b < N → qv_lp2 N f a b = R a b := by
  intro N
  induction N with
  | zero => intro a b _ h; omega
  | succ N ih => intro a b hI h; exact hs _ a b hI (fun a' b' h1 h2 => ih a' b' h1 (by omega))
theorem qm3 {A1 A2 A3 ρ : Type} {f : (A1 → A2 → A3 → Option ρ) → A1 → A2 → A3 → Option ρ} (R : A1 → A2 → A3 → Option ρ) (μ : A1 → A2 → A3 → Nat) (I : A1 → A2 → A3 → Prop) (hs : ∀ self a b c, I a b c → (∀ a' b' c', I a' b' c' → μ a' b' c' < μ a b c → self a' b' c' = R a' b' c') → f self a b c = R a b c) : ∀ N a b c, I a b c → μ a b c < N → qv_lp3 N f a b c = R a b c := by
  intro N
  induction N with
  | zero => intro a b c _ h; omega
  | succ N ih => intro a b c hI h; exact hs _ a b c hI (fun a' b' c' h1 h2 => ih a' b' c' h1 (by omega))
theorem qm4 {A1 A2 A3 A4 ρ : Type} {f : (A1 → A2 → A3 → A4 → Option ρ) → A1 → A2 → A3 → A4 → Option ρ} (R : A1 → A2 → A3 → A4 → Option ρ) (μ : A1 → A2 → A3 → A4 → Nat) (I : A1 → A2 → A3 → A4 → Prop) (hs : ∀ self a b c d, I a b c d → (∀ a' b' c' d', I a' b' c' d' → μ a' b' c' d' < μ a b c d → self a' b' c' d' = R a' b' c' d') → f self a b c d = R a b c d) : ∀ N a b c d, I a b c d → μ a b c d < N → qv_lp4 N f a b c d = R a b c d := by
  intro N
  induction N with
  | zero => intro a b c d _ h; omega
  | succ N ih => intro a b c d hI h; exact hs _ a b c d hI (fun a' b' c' d' h1 h2 => ih a' b' c' d' h1 (by omega))
/-- a whole cell set -/
def qs (S : qv_St) (q : Nat) (f : Nat → Int32) : qv_St := (fun i => if i = q then f else S.1 i, S.2)
theorem qs_eq {S : qv_St} {q : Nat} {f : Nat → Int32} : (qs S q f).1 q = f := by simp [qs]
theorem qs_ne {S : qv_St} {q i : Nat} {f : Nat → Int32} (h : i ≠ q) : (qs S q f).1 i = S.1 i := by simp [qs, h]
theorem qs_2 {S : qv_St} {q : Nat} {f : Nat → Int32} : (qs S q f).2 = S.2 := rfl
theorem qs_si {S : qv_St} {q k : Nat} {x : Int32} : qv_si S q k x = qs S q (upd (S.1 q) k x) := rfl
theorem qs_qs {S : qv_St} {q : Nat} {f g : Nat → Int32} : qs (qs S q f) q g = qs S q g := by
  simp only [qs]
  congr 1
  funext i
  by_cases h : i = q <;> simp [h]
theorem qs_comm {S : qv_St} {p q : Nat} {f g : Nat → Int32} (h : p ≠ q) : qs (qs S p f) q g = qs (qs S q g) p f := by
  simp only [qs]
  congr 1
  funext i
  by_cases h1 : i = q
  · subst h1; simp [Ne.symm h]
  · simp [h1]
theorem qs_id {S : qv_St} {q : Nat} : qs S q (S.1 q) = S := by
  obtain ⟨a, b⟩ := S
  simp only [qs]
  congr 1
  funext i
  by_cases h : i = q
  · subst h; simp
  · simp [h]
theorem upd_eq {f : Nat → Int32} {k : Nat} {x : Int32} : upd f k x k = x := by simp [upd]
theorem upd_ne {f : Nat → Int32} {k j : Nat} {x : Int32} (h : j ≠ k) : upd f k x j = f j := by simp [upd, h]
theorem upd_upd {f : Nat → Int32} {k : Nat} {x y : Int32} : upd (upd f k x) k y = upd f k y := by
  funext j
  by_cases h : j = k <;> simp [upd, h]
theorem qi_ck {ρ : Type} {k n : Nat} {o : Option ρ} (h : k < n) (hn : n < 2 ^ 31) : qv_ck (nI k) n o = o := by
  unfold qv_ck
  rw [if_pos (qv_in_iff.mpr (vp_in_nI h hn))]
theorem qi_cl {k : Nat} (h : k < 2 ^ 31) : Int32.toNatClampNeg (nI k) = k := nI_clamp h
theorem qv_lp2_s {A1 A2 ρ : Type} {f : (A1 → A2 → Option ρ) → A1 → A2 → Option ρ} {n : Nat} {a : A1} {b : A2} : qv_lp2 (n + 1) f a b = f (qv_lp2 n f) a b := rfl
/-- fill -/
theorem fill_eq {S : qv_St} {v ln : Nat} {x : Int32} (hl : ln < 5000) : fJ7_fill_53178 S v ln x = some (qs S v (fun j => if j < ln then x else S.1 v j)) := by
  unfold fJ7_fill_53178 qv_b
  have key := qm2 (f := (fun (self_1 : qv_St → Int32 → Option qv_St) (S_1 : qv_St) (x2_1 : Int32) => if Int32.ofNat ln ≤ x2_1 then some S_1 else qv_ck x2_1 ln (qv_b (qv_si S_1 v (Int32.toNatClampNeg x2_1) x) fun S_2 => self_1 S_2 (x2_1 + 1))))
    (fun S_1 i => some (qs S_1 v (fun j => if i.toNatClampNeg ≤ j ∧ j < ln then x else S_1.1 v j))) (fun _ i => ln - i.toNatClampNeg) (fun _ i => ∃ k, k ≤ ln ∧ i = nI k) ?_ qv_N S 0 ⟨0, Nat.zero_le _, rfl⟩ ?_
  · have h0 : Int32.toNatClampNeg 0 = 0 := by decide
    rw [h0] at key
    simp only [Nat.zero_le, true_and] at key
    exact key
  · rintro self a b ⟨k, hk, rfl⟩ ih
    have hc : Int32.toNatClampNeg (nI k) = k := qi_cl (by omega)
    simp only [hc, show Int32.ofNat ln = nI ln from rfl]
    by_cases h : k = ln
    · subst h
      rw [if_pos (Int32.le_refl _)]
      congr 1
      rw [show (fun j => if k ≤ j ∧ j < k then x else a.1 v j) = a.1 v from by funext j; rw [if_neg (by omega)], qs_id]
    · rw [if_neg (nI_ge (by omega) (by omega)), qi_ck (by omega) (by omega), qv_b]
      rw [ih _ _ ⟨k + 1, by omega, nI_1 k⟩ (by rw [nI_1, qi_cl (by omega)]; omega)]
      congr 1
      rw [nI_1, qi_cl (by omega), qs_si, qs_eq, qs_qs]
      congr 1
      funext j
      by_cases hj : j = k
      · subst hj
        rw [if_neg (by omega), upd_eq, if_pos (by omega)]
      · rw [upd_ne hj]
        by_cases h2 : k + 1 ≤ j ∧ j < ln
        · rw [if_pos h2, if_pos (by omega)]
        · rw [if_neg h2, if_neg (by omega)]
  · show ln - 0 < 5000
    omega
/-! the tape: feed, back -/
theorem sh8 (x y : Int32) (k : Nat) (hs : ((y &&& 31).toBitVec.smod 32).toNat = k) (hu : ((y.toUInt32 &&& Int32.toUInt32 31).toBitVec % 32).toNat = k) (hk : k + 8 ≤ 32) : Int32.toInt8 ((Int32.toUInt32 x >>> (Int32.toUInt32 y &&& Int32.toUInt32 31)).toInt32) = Int32.toInt8 (x >>> (y &&& 31)) := by
  have e1 : (x.toUInt32 >>> (y.toUInt32 &&& Int32.toUInt32 31)).toInt32.toBitVec = x.toBitVec >>> k := by
    rw [← hu]; exact UInt32.toBitVec_shiftRight _ _
  have e2 : (x >>> (y &&& 31)).toBitVec = x.toBitVec.sshiftRight k := by
    show x.toBitVec.sshiftRight ((y &&& 31).toBitVec.smod 32).toNat = _
    rw [hs]
  apply Int8.toBitVec_inj.mp
  show (BitVec.signExtend 8 _) = BitVec.signExtend 8 _
  rw [e1, e2]
  apply BitVec.eq_of_getLsbD_eq
  intro i hi
  rw [BitVec.getLsbD_signExtend, BitVec.getLsbD_signExtend, BitVec.getLsbD_ushiftRight, BitVec.getLsbD_sshiftRight]
  simp only [show i < 32 by omega, show k + i < 32 by omega, if_true, show ¬ 32 ≤ i by omega, decide_false, Bool.not_false, Bool.true_and]
def by8 (w k : Int32) : Int32 := vp_nar .byte ((Int32.toInt8 (w >>> (k &&& 31))).toInt32)
def tp4 (b : Nat → Int32) (n : Nat) (w : Int32) : Nat → Int32 := upd (upd (upd (upd b n (by8 w 24)) (n + 1) (by8 w 16)) (n + 2) (by8 w 8)) (n + 3) (by8 w 0)
theorem put_eq {S : qv_St} {n : Nat} {w : Int32} (h : S.1 0 2 = nI n) (hn : n + 4 ≤ 2000) : fX12_put S w = some (qs (qs S 1 (tp4 (S.1 1) n w)) 0 (upd (S.1 0) 2 (nI (n + 4)))) := by
  have step : ∀ (self : qv_St → Int32 → Option qv_St) (T : qv_St) (k : Nat) (x : Int32), T.1 0 2 = nI k → k < 2000 → ¬ x < 0 → (if x < 0 then some T else qv_ck (T.1 0 2) 2000 (qv_b (qv_si T 1 (Int32.toNatClampNeg (T.1 0 2)) (vp_nar .byte ((Int32.toInt8 (w >>> (x &&& 31))).toInt32))) fun S_2 => qv_b (qv_si S_2 0 2 ((S_2.1 0 2) + 1)) fun S_3 => self S_3 (x + (-8)))) = self (qs (qs T 1 (upd (T.1 1) k (by8 w x))) 0 (upd (T.1 0) 2 (nI (k + 1)))) (x + (-8)) := by
    intro self T k x hT hk hx
    rw [if_neg hx, hT, qi_ck hk (by omega), qi_cl (by omega)]
    simp only [qv_b, qs_si, qs_ne (show (0 : Nat) ≠ 1 by decide), hT, nI_1, by8]
  unfold fX12_put
  rw [show qv_N = 4995 + 1 + 1 + 1 + 1 + 1 from rfl, qv_lp2_s, step _ _ n 24 h (by omega) (by decide), qv_lp2_s, step _ _ (n + 1) _ (by rw [qs_eq, upd_eq]) (by omega) (by decide), qv_lp2_s, step _ _ (n + 2) _ (by rw [qs_eq, upd_eq]) (by omega) (by decide), qv_lp2_s, step _ _ (n + 3) _ (by rw [qs_eq, upd_eq]) (by omega) (by decide), qv_lp2_s, if_pos (by decide)]
  simp only [qs_eq, qs_ne (show (1 : Nat) ≠ 0 by decide), upd_upd, qs_comm (show (0 : Nat) ≠ 1 by decide), qs_qs, tp4]
  rfl
theorem add_eq {S : qv_St} {n : Nat} {w : Int32} (h : S.1 1 1 = nI n) (hn : n + 4 ≤ 2000) : fX8_add S w = some (qs (qs S 2 (tp4 (S.1 2) n w)) 1 (upd (S.1 1) 1 (nI (n + 4)))) := by
  have step : ∀ (self : qv_St → Int32 → Option qv_St) (T : qv_St) (k m : Nat) (x : Int32), T.1 1 1 = nI k → k < 2000 → ¬ x < 0 → ((x &&& 31).toBitVec.smod 32).toNat = m → ((x.toUInt32 &&& Int32.toUInt32 31).toBitVec % 32).toNat = m → m + 8 ≤ 32 → (if x < 0 then some T else if 2000 ≤ (T.1 1 1) then some T else qv_ck (T.1 1 1) 2000 (qv_b (qv_si T 2 (Int32.toNatClampNeg (T.1 1 1)) (vp_nar .byte ((Int32.toInt8 ((Int32.toUInt32 w >>> (Int32.toUInt32 x &&& Int32.toUInt32 31)).toInt32)).toInt32))) fun S_2 => qv_b (qv_si S_2 1 1 ((S_2.1 1 1) + 1)) fun S_3 => self S_3 (x + (-8)))) = self (qs (qs T 2 (upd (T.1 2) k (by8 w x))) 1 (upd (T.1 1) 1 (nI (k + 1)))) (x + (-8)) := by
    intro self T k m x hT hk hx h1 h2 h3
    rw [if_neg hx, hT, if_neg (show ¬ (2000 : Int32) ≤ nI k from nI_ge (b := 2000) hk (by decide)), qi_ck hk (by omega), qi_cl (by omega), sh8 w x m h1 h2 h3]
    simp only [qv_b, qs_si, qs_ne (show (1 : Nat) ≠ 2 by decide), hT, nI_1, by8]
  unfold fX8_add
  rw [show qv_N = 4995 + 1 + 1 + 1 + 1 + 1 from rfl, qv_lp2_s, step _ _ n 24 24 h (by omega) (by decide) (by decide) (by decide) (by decide), qv_lp2_s, step _ _ (n + 1) 16 _ (by rw [qs_eq, upd_eq]) (by omega) (by decide) (by decide) (by decide) (by decide), qv_lp2_s, step _ _ (n + 2) 8 _ (by rw [qs_eq, upd_eq]) (by omega) (by decide) (by decide) (by decide) (by decide), qv_lp2_s, step _ _ (n + 3) 0 _ (by rw [qs_eq, upd_eq]) (by omega) (by decide) (by decide) (by decide) (by decide), qv_lp2_s, if_pos (by decide)]
  simp only [qs_eq, qs_ne (show (2 : Nat) ≠ 1 by decide), upd_upd, qs_comm (show (1 : Nat) ≠ 2 by decide), qs_qs, tp4]
  rfl
def tp20 (t : Nat → Int32) (n : Nat) (a b c d e : Int32) : Nat → Int32 := tp4 (tp4 (tp4 (tp4 (tp4 t n a) (n + 4) b) (n + 8) c) (n + 12) d) (n + 16) e
theorem tp4_agree {t u : Nat → Int32} {n : Nat} {w : Int32} (h : ∀ k, k < n → t k = u k) : ∀ k, k < n + 4 → tp4 t n w k = tp4 u n w k := by
  intro k hk
  simp only [tp4, upd]
  by_cases h3 : k = n + 3
  · simp [h3]
  by_cases h2 : k = n + 2
  · simp [h2]
  by_cases h1 : k = n + 1
  · simp [h1]
  by_cases h0 : k = n
  · simp [h0]
  rw [if_neg h3, if_neg h2, if_neg h1, if_neg h0, if_neg h3, if_neg h2, if_neg h1, if_neg h0]
  exact h k (by omega)
theorem tp20_agree {t u : Nat → Int32} {n : Nat} {a b c d e : Int32} (h : ∀ k, k < n → t k = u k) : ∀ k, k < n + 20 → tp20 t n a b c d e k = tp20 u n a b c d e k :=
  tp4_agree (n := n + 16) (tp4_agree (n := n + 12) (tp4_agree (n := n + 8) (tp4_agree (n := n + 4) (tp4_agree h))))
theorem le_nI {a b : Nat} (ha : a < 2 ^ 31) (hb : b < 2 ^ 31) : nI a ≤ nI b ↔ a ≤ b := nI_leI ha hb
theorem feedM {S : qv_St} {n : Nat} {a b c d e : Int32} (h : S.1 0 2 = nI n) (hn : n ≤ 2000) : fX12_feed S a b c d e = if n + 20 ≤ 2000 then some (qs (qs S 1 (tp20 (S.1 1) n a b c d e)) 0 (upd (S.1 0) 2 (nI (n + 20))), nI (n + 20)) else some (S, -1) := by
  unfold fX12_feed
  rw [h, show nI n + 20 = nI (n + 20) from nI_add n 20]
  by_cases h1 : n + 20 ≤ 2000
  · rw [if_pos (show nI (n + 20) ≤ 2000 from (le_nI (b := 2000) (by omega) (by decide)).mpr h1), if_pos h1]
    rw [put_eq h (by omega), Option.bind_some, put_eq (n := n + 4) (by rw [qs_eq, upd_eq]) (by omega), Option.bind_some, put_eq (n := n + 8) (by rw [qs_eq, upd_eq]) (by omega), Option.bind_some, put_eq (n := n + 12) (by rw [qs_eq, upd_eq]) (by omega), Option.bind_some, put_eq (n := n + 16) (by rw [qs_eq, upd_eq]) (by omega), Option.bind_some]
    simp only [qs_eq, qs_ne (show (1 : Nat) ≠ 0 by decide), upd_upd, qs_comm (show (0 : Nat) ≠ 1 by decide), qs_qs, upd_eq, tp20]
  · rw [if_neg (show ¬ nI (n + 20) ≤ 2000 from fun z => h1 ((le_nI (b := 2000) (by omega) (by decide)).mp z)), if_neg h1]
theorem feedC {S : qv_St} {n : Nat} {a b c d e : Int32} (h : S.1 1 1 = nI n) (hn : n ≤ 2000) : fX11_feed S a b c d e = if n + 20 ≤ 2000 then some (qs (qs S 2 (tp20 (S.1 2) n a b c d e)) 1 (upd (S.1 1) 1 (nI (n + 20))), nI (n + 20)) else some (S, -1) := by
  unfold fX11_feed
  rw [h, show nI n + 20 = nI (n + 20) from nI_add n 20]
  by_cases h1 : n + 20 ≤ 2000
  · rw [if_pos (show nI (n + 20) ≤ 2000 from (le_nI (b := 2000) (by omega) (by decide)).mpr h1), if_pos h1]
    rw [add_eq h (by omega), Option.bind_some, add_eq (n := n + 4) (by rw [qs_eq, upd_eq]) (by omega), Option.bind_some, add_eq (n := n + 8) (by rw [qs_eq, upd_eq]) (by omega), Option.bind_some, add_eq (n := n + 12) (by rw [qs_eq, upd_eq]) (by omega), Option.bind_some, add_eq (n := n + 16) (by rw [qs_eq, upd_eq]) (by omega), Option.bind_some]
    simp only [qs_eq, qs_ne (show (2 : Nat) ≠ 1 by decide), upd_upd, qs_comm (show (1 : Nat) ≠ 2 by decide), qs_qs, upd_eq, tp20]
  · rw [if_neg (show ¬ nI (n + 20) ≤ 2000 from fun z => h1 ((le_nI (b := 2000) (by omega) (by decide)).mp z)), if_neg h1]
theorem backM {S : qv_St} {n : Nat} {x : Int32} (h : S.1 0 2 = nI n) (hn : n ≤ 2000) : (∃ j, j ≤ n ∧ x = nI j ∧ fX12_back S x = some (qs S 0 (upd (S.1 0) 2 (nI (n - j))), nI (n - j))) ∨ ((x < 0 ∨ nI n < x) ∧ fX12_back S x = some (S, -1)) := by
  unfold fX12_back
  by_cases h0 : x < 0
  · rw [if_pos h0]
    exact Or.inr ⟨Or.inl h0, rfl⟩
  · rw [if_neg h0]
    obtain ⟨j, hj, rfl⟩ := nI_of h0
    rw [h]
    by_cases h1 : j ≤ n
    · rw [if_pos ((le_nI hj (by omega)).mpr h1)]
      refine Or.inl ⟨j, h1, rfl, ?_⟩
      simp only [qv_b, qs_si, qs_eq, upd_eq, pk_sub h1]
    · rw [if_neg (fun z => h1 ((le_nI hj (by omega)).mp z))]
      exact Or.inr ⟨Or.inr (nI_lt (by omega) hj), rfl⟩
theorem backC {S : qv_St} {n : Nat} {x : Int32} (h : S.1 1 1 = nI n) (hn : n ≤ 2000) : (∃ j, j ≤ n ∧ x = nI j ∧ fX11_back S x = some (qs S 1 (upd (S.1 1) 1 (nI (n - j))), nI (n - j))) ∨ ((x < 0 ∨ nI n < x) ∧ fX11_back S x = some (S, -1)) := by
  unfold fX11_back
  by_cases h0 : x < 0
  · rw [if_pos h0]
    exact Or.inr ⟨Or.inl h0, rfl⟩
  · rw [if_neg h0]
    obtain ⟨j, hj, rfl⟩ := nI_of h0
    rw [h]
    by_cases h1 : j ≤ n
    · rw [if_pos ((le_nI hj (by omega)).mpr h1)]
      refine Or.inl ⟨j, h1, rfl, ?_⟩
      simp only [qv_b, qs_si, qs_eq, upd_eq, pk_sub h1]
    · rw [if_neg (fun z => h1 ((le_nI hj (by omega)).mp z))]
      exact Or.inr ⟨Or.inr (nI_lt (by omega) hj), rfl⟩
/-- the two tapes hold the same -/
def rT (S1 S2 : qv_St) : Prop := ∃ n, n ≤ 2000 ∧ S1.1 1 1 = nI n ∧ S2.1 0 2 = nI n ∧ ∀ k, k < n → S1.1 2 k = S2.1 1 k
