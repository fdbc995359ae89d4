/-! cheapest -/
def sm (f : Nat → Nat) : Nat → Nat
  | 0 => 0
  | n + 1 => sm f n + f n
theorem sm_le {f g : Nat → Nat} : ∀ n, (∀ k, k < n → f k ≤ g k) → sm f n ≤ sm g n
  | 0, _ => Nat.le_refl _
  | n + 1, h => Nat.add_le_add (sm_le n (fun k hk => h k (by omega))) (h n (by omega))
theorem sm_b {f : Nat → Nat} {m : Nat} : ∀ n, (∀ k, k < n → f k ≤ m) → sm f n ≤ n * m
  | 0, _ => by rw [Nat.zero_mul]; exact Nat.le_refl _
  | n + 1, h => by
    rw [Nat.add_mul, Nat.one_mul]
    exact Nat.add_le_add (sm_b n (fun k hk => h k (by omega))) (h n (by omega))
theorem sm_congr {f g : Nat → Nat} : ∀ n, (∀ k, k < n → f k = g k) → sm f n = sm g n
  | 0, _ => rfl
  | n + 1, h => by rw [sm, sm, h n (by omega), sm_congr n (fun k hk => h k (by omega))]
theorem sm_mul {f : Nat → Nat} {c : Nat} : ∀ n, sm (fun k => c * f k) n = sm f n * c
  | 0 => by rw [sm, sm, Nat.zero_mul]
  | n + 1 => by rw [sm, sm, sm_mul n, Nat.add_mul, Nat.mul_comm c]
def inS (n k : Nat) : Bool := n / 2 ^ k % 2 == 1
theorem bt_inS {n : Nat} : ∀ m, bt (inS n) m = n % 2 ^ m
  | 0 => by rw [Nat.pow_zero, Nat.mod_one]; rfl
  | m + 1 => by
    rw [bt, bt_inS m, Nat.pow_succ, Nat.mod_mul]
    unfold inS
    rcases Nat.mod_two_eq_zero_or_one (n / 2 ^ m) with z | z
    · rw [z]; simp
    · rw [z]; simp
theorem bt_mono {P Q : Nat → Bool} : ∀ n, (∀ k, k < n → P k = true → Q k = true) → bt P n ≤ bt Q n
  | 0, _ => Nat.le_refl _
  | n + 1, h => by
    rw [bt, bt]
    refine Nat.add_le_add (bt_mono n (fun k hk => h k (by omega))) ?_
    by_cases hp : P n = true
    · rw [if_pos hp, if_pos (h n (by omega) hp)]; exact Nat.le_refl _
    · rw [if_neg hp]; exact Nat.zero_le _
theorem inS_bt {P : Nat → Bool} {n k : Nat} (hk : k < n) : inS (bt P n) k = P k := by
  unfold inS
  have := bt_test (P := P) n k hk
  cases hp : P k with
  | true => rw [beq_iff_eq]; exact this.mpr hp
  | false => rw [beq_eq_false_iff_ne]; intro z; rw [this.mp z] at hp; cases hp
/-- the noises of a set, those below m, being paid for L seconds -/
def stE (E : sE) (n L m : Nat) : sE := (E.1, E.2.1, E.2.2.1, fun i => if 4 ≤ i ∧ i < 4 + m ∧ inS n (i - 4) = true then max (E.2.2.2 i) (E.2.2.2 0) + L else E.2.2.2 i)
theorem stE_lo {E : sE} {n L m i : Nat} (h : i < 4) : (stE E n L m).2.2.2 i = E.2.2.2 i := if_neg (by omega)
theorem stE_v {E : sE} (hw : wE E) {n L m : Nat} (hL : L ≤ 9) : vE (stE E n L m) := by
  refine ⟨hw.1.1, hw.1.2.1, fun k hk => ?_⟩
  have h0 := hw.2.1 0 (by decide)
  have hk2 := hw.2.1 k hk
  show (if 4 ≤ k ∧ k < 4 + m ∧ inS n (k - 4) = true then max (E.2.2.2 k) (E.2.2.2 0) + L else E.2.2.2 k) ≤ 1000000
  by_cases z : 4 ≤ k ∧ k < 4 + m ∧ inS n (k - 4) = true
  · rw [if_pos z]; omega
  · rw [if_neg z]; omega
theorem stE_hr {E : sE} {n L p k j : Nat} (hk : k < E.1 9 0) (hj : j < L) : hrE (stE E n L (E.1 9 0)) k p (E.2.2.2 0 + j) = if inS n k = true then 0 else hrE E k p (E.2.2.2 0 + j) := by
  unfold hrE hrP
  show hrA E.1 E.2.1 k p _ (agP E.1 E.2.2.1 (if 4 ≤ 4 + k ∧ 4 + k < 4 + E.1 9 0 ∧ inS n (4 + k - 4) = true then max (E.2.2.2 (4 + k)) (E.2.2.2 0) + L else E.2.2.2 (4 + k)) k _) = _
  rw [show 4 + k - 4 = k by omega]
  by_cases h : inS n k = true
  · rw [if_pos ⟨by omega, by omega, h⟩, if_pos h]
    unfold agP
    rw [if_pos (show E.2.2.2 0 + j < max (E.2.2.2 (4 + k)) (E.2.2.2 0) + L by omega)]
    rfl
  · rw [if_neg (fun z => h z.2.2), if_neg h]
theorem stE_ru {E : sE} {n L m j : Nat} : ruE (stE E n L m) j = ruE E j := by
  unfold ruE
  rw [stE_lo (by decide), stE_lo (by decide)]
  rfl
theorem stE_go {E : sE} {n p s : Nat} : goE (stE E n (E.1 17 s) (E.1 9 0)) p s 0 = true ↔ orN (rsB E s) (E.1 17 s) = false ∧ ∀ k, k < E.1 9 0 → orN (fun j => tlB E p s j k) (E.1 17 s) = true → inS n k = true := by
  rw [goE_iff]
  have hcl : ∀ j, j < E.1 17 s → (clE (stE E n (E.1 17 s) (E.1 9 0)) p s 0 j = true ↔ rsB E s j = false ∧ ∀ k, k < E.1 9 0 → tlB E p s j k = true → inS n k = true) := by
    intro j hj
    unfold clE
    rw [decide_eq_true_iff, Nat.zero_add, stE_lo (by decide)]
    have hb : beE (stE E n (E.1 17 s) (E.1 9 0)) s j (E.2.2.2 0 + j) = beE E s j (E.2.2.2 0 + j) := rfl
    rw [hb]
    unfold loE moE
    rw [stE_lo (by decide), stE_ru, Nat.max_le]
    have hmx : mxN (fun k => hrE (stE E n (E.1 17 s) (E.1 9 0)) k p (E.2.2.2 0 + j)) ((stE E n (E.1 17 s) (E.1 9 0)).1 9 0) = mxN (fun k => if inS n k = true then 0 else hrE E k p (E.2.2.2 0 + j)) (E.1 9 0) := mxN_congr _ (fun k hk => stE_hr hk hj)
    rw [hmx]
    unfold rsB tlB
    constructor
    · rintro ⟨g1, g2⟩
      refine ⟨decide_eq_false (by omega), fun k hk hk2 => ?_⟩
      rw [decide_eq_true_iff] at hk2
      cases hi : inS n k with
      | true => rfl
      | false =>
        have := le_mxN (f := fun k => if inS n k = true then 0 else hrE E k p (E.2.2.2 0 + j)) _ k hk
        simp only [hi] at this
        have this : hrE E k p (E.2.2.2 0 + j) ≤ _ := this
        omega
    · rintro ⟨g1, g2⟩
      rw [decide_eq_false_iff_not] at g1
      refine ⟨mxN_le _ (fun k hk => ?_), by omega⟩
      by_cases hi : inS n k = true
      · rw [if_pos hi]; exact Nat.zero_le _
      · rw [if_neg hi]
        have : ¬ beE E s j (E.2.2.2 0 + j) < hrE E k p (E.2.2.2 0 + j) := fun z => hi (g2 k hk (decide_eq_true z))
        omega
  constructor
  · intro h
    refine ⟨?_, fun k hk hk2 => ?_⟩
    · cases ho : orN (rsB E s) (E.1 17 s) with
      | false => rfl
      | true =>
        obtain ⟨j, h1, h2⟩ := (orN_iff _).mp ho
        rw [((hcl j h1).mp (h j h1)).1] at h2
        cases h2
    · obtain ⟨j, h1, h2⟩ := (orN_iff _).mp hk2
      exact ((hcl j h1).mp (h j h1)).2 k hk h2
  · rintro ⟨h1, h2⟩ j hj
    have hj : j < E.1 17 s := hj
    rw [hcl j hj]
    refine ⟨?_, fun k hk hk2 => h2 k hk ((orN_iff _).mpr ⟨j, hj, hk2⟩)⟩
    cases hr : rsB E s j with
    | false => rfl
    | true => rw [(orN_iff (P := rsB E s) _).mpr ⟨j, hj, hr⟩] at h1; cases h1
def csN (E : sE) (s n : Nat) : Nat := sm (fun k => if inS n k = true then E.1 17 s * E.1 15 k else 0) (E.1 9 0)
def chN (G : Nat → Bool) (c : Nat → Nat) : Nat → Option (Nat × Nat)
  | 0 => none
  | n + 1 => match chN G c n with
    | none => if G n = true then some (n, c n) else none
    | some q => if c n < q.2 ∧ G n = true then some (n, c n) else some q
theorem chN_none {G : Nat → Bool} {c : Nat → Nat} : ∀ n, (∀ k, k < n → G k = false) → chN G c n = none
  | 0, _ => rfl
  | n + 1, h => by rw [chN, chN_none n (fun k hk => h k (by omega)), h n (by omega)]; rfl
theorem chN_some {G : Nat → Bool} {c : Nat → Nat} {T : Nat} (h0 : ∀ k, k < T → G k = false) (hT : G T = true) (hc : ∀ k, T < k → G k = true → c T ≤ c k) : ∀ m, chN G c (T + 1 + m) = some (T, c T)
  | 0 => by rw [Nat.add_zero, chN, chN_none T h0, hT]; rfl
  | m + 1 => by
    rw [← Nat.add_assoc, chN, chN_some h0 hT hc m]
    show (if c (T + 1 + m) < c T ∧ G (T + 1 + m) = true then _ else _) = _
    rw [if_neg]
    rintro ⟨z1, z2⟩
    have := hc _ (by omega) z2
    omega
theorem chN_b {G : Nat → Bool} {c : Nat → Nat} : ∀ n q, chN G c n = some q → q.1 < n ∧ q.2 = c q.1
  | n + 1, q, h => by
    rw [chN] at h
    cases hq : chN G c n with
    | none =>
      rw [hq] at h
      have h : (if G n = true then some (n, c n) else none) = some q := h
      by_cases z : G n = true
      · rw [if_pos z] at h; cases h; exact ⟨Nat.lt_succ_self _, rfl⟩
      · rw [if_neg z] at h; cases h
    | some r =>
      rw [hq] at h
      have h : (if c n < r.2 ∧ G n = true then some (n, c n) else some r) = some q := h
      have := chN_b n r hq
      by_cases z : c n < r.2 ∧ G n = true
      · rw [if_pos z] at h; cases h; exact ⟨Nat.lt_succ_self _, rfl⟩
      · rw [if_neg z] at h; cases h; exact ⟨by omega, this.2⟩
/-- what cheapest finds -/
theorem cheap_eq {E : sE} {p s : Nat} : chN (fun n => goE (stE E n (E.1 17 s) (E.1 9 0)) p s 0) (csN E s) (2 ^ (E.1 9 0)) = if orN (rsB E s) (E.1 17 s) = true then none else some (tooE E p s, csN E s (tooE E p s)) := by
  have hlt : tooE E p s < 2 ^ (E.1 9 0) := bt_lt _
  by_cases hr : orN (rsB E s) (E.1 17 s) = true
  · rw [if_pos hr]
    refine chN_none _ (fun k _ => ?_)
    cases hg : goE (stE E k (E.1 17 s) (E.1 9 0)) p s 0 with
    | false => rfl
    | true => rw [(stE_go.mp hg).1] at hr; cases hr
  · rw [if_neg hr]
    have hr : orN (rsB E s) (E.1 17 s) = false := by simpa using hr
    have hsub : ∀ n, n < 2 ^ (E.1 9 0) → goE (stE E n (E.1 17 s) (E.1 9 0)) p s 0 = true → tooE E p s ≤ n := by
      intro n hn hg
      have := bt_inS (n := n) (E.1 9 0)
      rw [Nat.mod_eq_of_lt hn] at this
      rw [← this]
      exact bt_mono _ (fun k hk hk2 => (stE_go.mp hg).2 k hk hk2)
    have hgT : goE (stE E (tooE E p s) (E.1 17 s) (E.1 9 0)) p s 0 = true := stE_go.mpr ⟨hr, fun k hk hk2 => by unfold tooE; rw [inS_bt hk]; exact hk2⟩
    have hgo : ∀ n, goE (stE E n (E.1 17 s) (E.1 9 0)) p s 0 = true → ∀ k, k < E.1 9 0 → orN (fun j => tlB E p s j k) (E.1 17 s) = true → inS n k = true := fun n hg => (stE_go.mp hg).2
    have hcs2 : csN E s = fun n => sm (fun k => if inS n k = true then E.1 17 s * E.1 15 k else 0) (E.1 9 0) := rfl
    generalize hG : (fun n => goE (stE E n (E.1 17 s) (E.1 9 0)) p s 0) = G
    have hGe : ∀ n, goE (stE E n (E.1 17 s) (E.1 9 0)) p s 0 = G n := fun n => by rw [← hG]
    have h2 : 2 ^ (E.1 9 0) = tooE E p s + 1 + (2 ^ (E.1 9 0) - (tooE E p s + 1)) := by omega
    generalize hM : 2 ^ (E.1 9 0) - (tooE E p s + 1) = M at h2
    rw [h2]
    refine chN_some (G := G) (c := csN E s) (T := tooE E p s) (fun k hk => ?_) (by rw [← hGe]; exact hgT) (fun k hk hg => ?_) M
    · cases hg : G k with
      | false => rfl
      | true => rw [← hGe] at hg; have := hsub k (by omega) hg; omega
    · rw [← hGe] at hg
      refine sm_le _ (fun j hj => ?_)
      by_cases z : inS (tooE E p s) j = true
      · rw [if_pos z, if_pos (hgo k hg j hj (by unfold tooE at z; rw [inS_bt hj] at z; exact z))]
        exact Nat.le_refl _
      · rw [if_neg z]; exact Nat.zero_le _
theorem priceC {E : sE} {S : qv_St} {b : Nat} (h : HC E S) (hv : vE E) (hb : b < 2 ^ 31) : fX5_priceOf S (nI b) = some (nI (sm (fun k => if inS b k = true then E.1 15 k else 0) (E.1 9 0))) := by
  have key : okk (fX5_priceOf S (nI b)) (fun z => z = nI (sm (fun k => if inS b k = true then E.1 15 k else 0) (E.1 9 0))) := by
    unfold fX5_priceOf
    have hN5 := qN
    generalize qv_N = N at hN5 ⊢
    simp only [qj_e, qb_e]
    have h8 := hv.1.1
    rw [h.1.1]
    refine ok_lp2 (fun m x2 x3 => ∃ i, m = E.1 9 0 - i ∧ i ≤ E.1 9 0 ∧ x3 = nI i ∧ x2 = nI (sm (fun k => if inS b k = true then E.1 15 k else 0) i)) ?_ N (E.1 9 0) 0 0 ⟨0, rfl, by omega, rfl, rfl⟩ (by omega)
    rintro self m x2 x3 ⟨i, rfl, hi, rfl, rfl⟩ ih
    by_cases e : i = E.1 9 0
    · exact ok_pos (by rw [e]; exact Int32.le_refl _) (ok_s (by rw [e]))
    · refine ok_neg (nI_ge (by omega) (by omega)) ?_
      rw [bit_get hb (by omega), nI_1, qi_cl (by omega), h.1.2.2.2.2.2.2.1 15 (by decide) (by decide) i (by omega), nI_add]
      rcases Nat.mod_two_eq_zero_or_one (b / 2 ^ i) with z | z
      · refine ok_pos (by rw [z]; rfl) (ih (E.1 9 0 - (i + 1)) _ _ (by omega) ⟨i + 1, rfl, by omega, rfl, ?_⟩)
        rw [sm, if_neg (by unfold inS; rw [z]; decide)]
        rfl
      · refine ok_neg (by rw [z]; decide) (ok_ck i rfl (by omega) (by decide) (ih (E.1 9 0 - (i + 1)) _ _ (by omega) ⟨i + 1, rfl, by omega, rfl, ?_⟩))
        rw [sm, if_pos (by unfold inS; rw [z]; decide)]
  obtain ⟨r, h1, rfl⟩ := key
  exact h1
theorem paysM {lv : Nat} {E : sE} {S : qv_St} {n L k : Nat} (h : HM lv (stE E n L k) S) (hw : wE E) (hk : k < 8) (hL : L ≤ 9) (hin : inS n k = true) : okk (fX12_pays S (nI k) (nI L)) (fun z => HM lv (stE E n L (k + 1)) z ∧ frQ S z) := by
  unfold fX12_pays
  simp only [qj_e, qb_e]
  have e4 : 4 + nI k = nI (4 + k) := nI_add 4 k
  have h0 := hw.2.1 0 (by decide)
  have hk4 := hw.2.1 (4 + k) (by omega)
  have r0 : S.1 37 0 = nI (E.2.2.2 0) := by rw [h.2.1 0 (by decide), stE_lo (by decide)]
  have rk : S.1 37 (4 + k) = nI (E.2.2.2 (4 + k)) := by
    rw [h.2.1 (4 + k) (by omega)]
    congr 1
    exact if_neg (by omega)
  rw [e4, tc0, qi_cl (by omega), r0, rk]
  have fin : ∀ T : qv_St, (∀ q, q ≠ 37 → T.1 q = S.1 q) → T.2 = S.2 → (∀ j, j < 32 → j ≠ 4 + k → T.1 37 j = S.1 37 j) → T.1 37 (4 + k) = nI (max (E.2.2.2 (4 + k)) (E.2.2.2 0)) → okk (qv_ck (nI (4 + k)) 32 (qv_ck (nI (4 + k)) 32 (some (qv_si T 37 (4 + k) (T.1 37 (4 + k) + nI L))))) (fun z => HM lv (stE E n L (k + 1)) z ∧ frQ S z) := by
    intro T t1 t2 t3 t4
    refine ok_ck (4 + k) rfl (by omega) (by decide) (ok_ck (4 + k) rfl (by omega) (by decide) (ok_s ?_))
    rw [t4, nI_add, qs_si]
    refine ⟨⟨mS_G (fun q q1 q2 => by rw [qs_ne (by omega), t1 q (by omega)]) (by rw [qs_ne (by decide), t1 0 (by decide)]) h.1, fun j hj => ?_, ?_⟩, t2, fun q _ _ _ d _ _ _ _ => by rw [qs_ne d, t1 q d], fun j _ _ _ _ _ => by rw [qs_ne (by decide), t1 0 (by decide)]⟩
    · rw [qs_eq]
      show upd (T.1 37) (4 + k) _ j = nI (if 4 ≤ j ∧ j < 4 + (k + 1) ∧ inS n (j - 4) = true then max (E.2.2.2 j) (E.2.2.2 0) + L else E.2.2.2 j)
      by_cases ej : j = 4 + k
      · rw [ej, upd_eq, if_pos ⟨by omega, by omega, by rw [show 4 + k - 4 = k by omega]; exact hin⟩]
      · rw [upd_ne ej, t3 j hj ej, h.2.1 j hj]
        congr 1
        show (if 4 ≤ j ∧ j < 4 + k ∧ inS n (j - 4) = true then max (E.2.2.2 j) (E.2.2.2 0) + L else E.2.2.2 j) = _
        by_cases z : 4 ≤ j ∧ j < 4 + k ∧ inS n (j - 4) = true
        · rw [if_pos z, if_pos ⟨z.1, by omega, z.2.2⟩]
        · rw [if_neg z, if_neg (fun y => z ⟨y.1, by omega, y.2.2⟩)]
    · rw [qs_ne (by decide), t1 0 (by decide)]; exact h.2.2
  refine ok_ck (4 + k) rfl (by omega) (by decide) (ok_ck 0 rfl (by decide) (by decide) (ok_if (fun z => ?_) (fun z => ?_)))
  · have z := (nI_leI (by omega) (by omega)).mp z
    have := fin S (fun _ _ => rfl) rfl (fun _ _ _ => rfl) (by rw [rk, Nat.max_eq_left z])
    rw [rk] at this
    exact this
  · have z : ¬ E.2.2.2 0 ≤ E.2.2.2 (4 + k) := fun y => z (nI_le y (by omega))
    refine ok_ck 0 rfl (by decide) (by decide) (ok_ck (4 + k) rfl (by omega) (by decide) ?_)
    exact fin (qv_si S 37 (4 + k) (nI (E.2.2.2 0))) (fun q hq => by rw [qs_si, qs_ne hq]) rfl (fun j _ hj => by rw [qs_si, qs_eq, upd_ne hj]) (by rw [qs_si, qs_eq, upd_eq, Nat.max_eq_right (by omega)])
theorem call_cheapest {E : sE} {lv : Nat} {S1 S2 : qv_St} (hw : wE E) (h1 : qC E S1) (h2 : qM lv E S2) (a b : Int32) : ask2 E S1 S2 (fX11_cheapest S1 a b) (fX12_cheapest S2 a b) := by
  unfold fX11_cheapest fX12_cheapest
  have hN5 := qN
  generalize qv_N = N at hN5 ⊢
  simp only [qj_e, qb_e]
  rcases shI (x := a) h1 h2 with ⟨e1, e2⟩ | ⟨s, hs, rfl, e1, e2⟩
  · rw [e1, e2, b0, b0, if_pos rfl, if_pos rfl]; exact ask2_no h1
  rw [e1, e2, b1, b1, if_neg n10, if_neg n10]
  rcases rgI b 0 1 0 1 rfl rfl (by decide) (by decide) with ⟨e1, e2⟩ | ⟨w, _, hw1, rfl, e1, e2⟩
  · rw [e1, e2, b0, b0, if_pos rfl, if_pos rfl]; exact ask2_no h1
  rw [e1, e2, b1, b1, if_neg n10, if_neg n10, plC h1.2.1 h1.1, plM h2.2.1 h2.1]
  by_cases hnp : E.1 9 1 = 0
  · rw [if_pos hnp, if_pos hnp]; exact ask2_no h1
  rw [if_neg hnp, if_neg hnp]
  have hv := h1.1
  have h8 := hv.1.1
  have h4 := hv.1.2.1
  have h6 := hv.1.2.2.1
  have hL := hv.1.2.2.2.2.2.2.2.2 s hs
  have hp : E.2.2.2 1 < E.1 9 1 := by rcases hw.2.2.1 with z | z; exact absurd z hnp; exact z
  generalize hP : E.2.2.2 1 = p at hp
  have hp8 : 2 ^ (E.1 9 0) ≤ 2 ^ 8 := Nat.pow_le_pow_right (by decide) h8
  have hprice : ∀ k, k < E.1 9 0 → E.1 15 k ≤ 99 := fun k hk => (hv.1.2.2.2.2.2.2.1 k hk).2.2.2.2.2.2.2
  have hcs : ∀ n, csN E s n ≤ 8 * 891 := by
    intro n
    refine Nat.le_trans (sm_b (m := 891) _ (fun k hk => ?_)) (Nat.mul_le_mul_right _ h8)
    by_cases z : inS n k = true
    · rw [if_pos z]; exact Nat.mul_le_mul hL.2.1 (hprice k hk)
    · rw [if_neg z]; exact Nat.zero_le _
  refine ask2_mk (match chN (fun n => goE (stE E n (E.1 17 s) (E.1 9 0)) p s 0) (csN E s) (2 ^ (E.1 9 0)) with | none => -2 | some q => if nI w = 0 then nI q.2 else nI q.1) ?_ ?_
  · rw [cheap_eq, h1.2.1.2.1.2.1, hP]
    refine ok_bd (faceQ h1 hp) ?_
    rintro T ⟨hT, hf⟩
    refine ok_cm (tooC hT hP hs) ?_
    rintro S4 r ⟨hr, hS4, hf4⟩
    have hr : r = _ := hr
    have hS4 : SV E p S4 := hS4
    have hfr := frE_tr hf (frE_D hf4)
    have htl : tooE E p s < 2 ^ (E.1 9 0) := bt_lt _
    by_cases z : orN (rsB E s) (E.1 17 s) = true
    · rw [if_pos z] at hr
      rw [if_pos z]
      subst hr
      exact ok_neg (by decide) (ok_s ⟨rfl, qC_SV hS4, hfr⟩)
    · rw [if_neg z] at hr
      rw [if_neg z]
      subst hr
      refine ok_pos (nI_pos' (by omega)) (ok_if (fun g => ?_) (fun g => ok_s ⟨?_, qC_SV hS4, hfr⟩))
      · rw [priceC hS4.2.1 hv (by omega), Option.bind_some]
        refine ok_ck s rfl (by omega) (by decide) ?_
        rw [qi_cl (by omega), (hS4.2.1.1.2.2.2.2.2.2.2.2.1 s hs).1, pk_mul]
        refine ok_s ⟨?_, qC_SV hS4, hfr⟩
        show nI _ = if nI w = 0 then nI (csN E s (tooE E p s)) else nI (tooE E p s)
        rw [if_pos g, ← sm_mul]
        congr 1
        refine sm_congr _ (fun k hk => ?_)
        by_cases y : inS (tooE E p s) k = true
        · rw [if_pos y, if_pos y]
        · rw [if_neg y, if_neg y]; rfl
      · show nI (tooE E p s) = if nI w = 0 then nI (csN E s (tooE E p s)) else nI (tooE E p s)
        rw [if_neg g]
  · generalize hG : (fun n => goE (stE E n (E.1 17 s) (E.1 9 0)) p s 0) = G
    have hGe : ∀ n, goE (stE E n (E.1 17 s) (E.1 9 0)) p s 0 = G n := fun n => by rw [← hG]
    refine ok_lp4 (fun m U x3 x4 x5 => ∃ i, m = 2 ^ (E.1 9 0) - i ∧ i ≤ 2 ^ (E.1 9 0) ∧ x5 = nI i ∧ x3 = bx (chN G (csN E s) i) ∧ (∀ q, chN G (csN E s) i = some q → x4 = nI q.2) ∧ frQ S2 U) ?_ N (2 ^ (E.1 9 0)) S2 (-2) 0 0 ⟨0, rfl, Nat.zero_le _, rfl, rfl, fun q hq => (by cases hq), frQ_rf⟩ (by omega)
    rintro self m U x3 x4 x5 ⟨i, rfl, hi, rfl, rfl, hx4, hfU⟩ ih
    have hqU := qM_fr h2 hfU
    obtain ⟨a0, a1, a2, a3, a4, a5, a6, a7, a8, ax4⟩ := hqU.2.1
    have hix : ∀ k, 8 * nI lv + nI k = nI (8 * lv + k) := fun k => by rw [show (8 : Int32) = nI 8 from rfl, pk_mul, nI_add]
    have hb2 := chN_b (G := G) (c := csN E s) i
    refine ok_ck lv a1 (by omega) (by decide) ?_
    rw [a1, qi_cl (by omega), a2, sh1 _ (by omega)]
    by_cases e : i = 2 ^ (E.1 9 0)
    · refine ok_pos (by rw [e]; exact Int32.le_refl _) ?_
      subst e
      cases hc : chN G (csN E s) (2 ^ (E.1 9 0)) with
      | none => exact ok_pos (by decide) (ok_s ⟨rfl, hfU⟩)
      | some q =>
        have hq := hb2 q hc
        rw [hx4 q hc]
        have hw01 : w = 0 ∨ w = 1 := by omega
        refine ok_neg (nI_pos (n := q.1) (by omega)) (ok_if (fun g => ok_s ⟨?_, hfU⟩) (fun g => ok_s ⟨?_, hfU⟩))
        · show nI q.1 = if nI w = 0 then nI q.2 else nI q.1
          rw [g, if_neg (by decide)]
        · show nI q.2 = if nI w = 0 then nI q.2 else nI q.1
          rcases hw01 with rfl | rfl
          · rw [if_pos (show nI 0 = 0 from rfl)]
          · exact absurd rfl g
    · have hlt1 : 2 ^ (E.1 9 0) - (i + 1) < 2 ^ (E.1 9 0) - i := by omega
      have hle1 : i + 1 ≤ 2 ^ (E.1 9 0) := by omega
      refine ok_neg (nI_ge (by omega) (by omega)) ?_
      refine ok_lp2 (fun m x6 x7 => ∃ j, m = E.1 9 0 - j ∧ j ≤ E.1 9 0 ∧ x7 = nI j ∧ x6 = nI (sm (fun k => if inS i k = true then E.1 17 s * E.1 15 k else 0) j)) ?_ N (E.1 9 0) 0 0 ⟨0, rfl, by omega, rfl, rfl⟩ (by omega)
      rintro self3 m x6 x7 ⟨j, rfl, hj, rfl, rfl⟩ ih3
      refine ok_ck lv rfl (by omega) (by decide) ?_
      by_cases ej : j = E.1 9 0
      · refine ok_pos (by rw [ej]; exact Int32.le_refl _) ?_
        subst ej
        have hcse : nI (sm (fun k => if inS i k = true then E.1 17 s * E.1 15 k else 0) (E.1 9 0)) = nI (csN E s i) := rfl
        rw [hcse, nI_1]
        have hci := hcs i
        have skip : ∀ V : qv_St, frQ S2 V → chN G (csN E s) (i + 1) = chN G (csN E s) i → okk (self V (bx (chN G (csN E s) i)) x4 (nI (i + 1))) (fun z => z.2 = (match chN G (csN E s) (2 ^ (E.1 9 0)) with | none => -2 | some q => if nI w = 0 then nI q.2 else nI q.1) ∧ frQ S2 z.1) := by
          intro V hfV hn
          refine ih _ _ _ _ _ hlt1 ⟨i + 1, rfl, hle1, rfl, ?_, ?_, hfV⟩
          · rw [hn]
          · rw [hn]; exact hx4
        have try_ : (∀ q, chN G (csN E s) i = some q → csN E s i < q.2) → okk ((fX12_copies U).bind fun S_4 => qv_lp2 N (fun self_2 (S_8 : qv_St) (x7_1 : Int32) => qv_ck (S_8.1 0 18) 2 (if S_8.1 9 (Int32.toNatClampNeg (S_8.1 0 18)) ≤ x7_1 then qv_ck 1 32 ((fX12_longFor S_8 (nI s)).bind fun r_3 => (fX12_fillsLoud S_8 (S_8.1 37 (Int32.toNatClampNeg 1)) r_3).bind fun S_6 => qv_cm (fX12_isGood S_6 (nI s) 0) fun S_7 r_4 => if r_4 = 0 then self S_7 (bx (chN G (csN E s) i)) x4 (nI (i + 1)) else self S_7 (nI i) (nI (csN E s i)) (nI (i + 1))) else if ((nI i >>> (x7_1 &&& 31)) &&& 1) = 1 then (fX12_longFor S_8 (nI s)).bind fun r_5 => (fX12_pays S_8 x7_1 r_5).bind fun S_10 => self_2 S_10 (x7_1 + 1) else self_2 S_8 (x7_1 + 1))) S_4 0) (fun z => z.2 = (match chN G (csN E s) (2 ^ (E.1 9 0)) with | none => -2 | some q => if nI w = 0 then nI q.2 else nI q.1) ∧ frQ S2 z.1) := by
          intro hless
          have hnew : chN G (csN E s) (i + 1) = if G i = true then some (i, csN E s i) else chN G (csN E s) i := by
            rw [chN]
            cases hc : chN G (csN E s) i with
            | none => rfl
            | some q =>
              show (if csN E s i < q.2 ∧ G i = true then _ else _) = _
              by_cases z : G i = true
              · rw [if_pos ⟨hless q hc, z⟩, if_pos z]
              · rw [if_neg (fun y => z y.2), if_neg z]
          refine ok_bd (copiesQ hqU) ?_
          rintro T ⟨hT, hfT⟩
          have hT0 : HM lv (stE E i (E.1 17 s) 0) T := ⟨hT.1, fun k hk => by rw [hT.2.1 k hk]; congr 1; exact (if_neg (by omega)).symm, hT.2.2⟩
          refine ok_lp2 (fun m V x7 => ∃ j, m = E.1 9 0 - j ∧ j ≤ E.1 9 0 ∧ x7 = nI j ∧ HM lv (stE E i (E.1 17 s) j) V ∧ frQ S2 V) ?_ N (E.1 9 0) T 0 ⟨0, rfl, by omega, rfl, hT0, frQ_tr hfU hfT⟩ (by omega)
          rintro self2 m V x7 ⟨j, rfl, hj, rfl, hV, hfV⟩ ih2
          have hvs := stE_v hw (n := i) (m := j) hL.2.1
          have v1 : V.1 0 18 = nI lv := hV.1.2.1
          have v2 : V.1 9 lv = nI (E.1 9 0) := hV.1.2.2.1
          have hlong : fX12_longFor V (nI s) = some (nI (E.1 17 s)) := longM (E := stE E i (E.1 17 s) j) hV.1 hvs hs
          refine ok_ck lv v1 (by omega) (by decide) ?_
          rw [v1, qi_cl (by omega), v2]
          by_cases ej : j = E.1 9 0
          · refine ok_pos (by rw [ej]; exact Int32.le_refl _) (ok_ck 1 rfl (by decide) (by decide) ?_)
            subst ej
            have hp1 : (stE E i (E.1 17 s) (E.1 9 0)).2.2.2 1 = p := by rw [stE_lo (by decide)]; exact hP
            rw [hlong, Option.bind_some, tc1, hV.2.1 1 (by decide), hp1]
            refine ok_bd (fillsM hV hvs hp (m := E.1 17 s) (by omega)) ?_
            rintro Y ⟨hY, hfY⟩
            have hHY := HM_frL hV hfY
            refine ok_cm (goodM hHY hvs hs (n := 0) (p := p) (by decide) (fun k hk => by rw [Nat.zero_add]; exact hY k hk)) ?_
            rintro S7 r ⟨hr, hf7⟩
            have hr : r = _ := hr
            have hf7 : frB Y S7 := hf7
            subst hr
            have hfr7 := frQ_tr hfV (frQ_L (frL_tr hfY (frL_B hf7)))
            rw [hGe]
            cases hg : G i with
            | false =>
              refine ok_pos rfl (skip S7 hfr7 ?_)
              rw [hnew, hg]; rfl
            | true =>
              rw [hg] at hnew
              have hnew : chN G (csN E s) (i + 1) = some (i, csN E s i) := hnew
              refine ok_neg (by decide) (ih _ _ _ _ _ hlt1 ⟨i + 1, rfl, hle1, rfl, ?_, ?_, hfr7⟩)
              · rw [hnew]; rfl
              · intro q hq
                rw [hnew] at hq
                cases hq
                rfl
          · refine ok_neg (nI_ge (by omega) (by omega)) ?_
            rw [bit_get (by omega) (by omega), nI_1, hlong, Option.bind_some]
            refine ok_if (fun z => ?_) (fun z => ?_)
            · have z : i / 2 ^ j % 2 = 1 := (nI_eq (by omega) (by decide)).mp z
              refine ok_bd (paysM hV hw (by omega) hL.2.1 (by unfold inS; rw [z]; rfl)) ?_
              rintro Y ⟨hY, hfY⟩
              exact ih2 (E.1 9 0 - (j + 1)) _ _ (by omega) ⟨j + 1, rfl, by omega, rfl, hY, frQ_tr hfV hfY⟩
            · have z : ¬ i / 2 ^ j % 2 = 1 := fun y => z (by rw [y]; rfl)
              refine ih2 (E.1 9 0 - (j + 1)) _ _ (by omega) ⟨j + 1, rfl, by omega, rfl, ⟨hV.1, fun k hk => ?_, hV.2.2⟩, hfV⟩
              rw [hV.2.1 k hk]
              congr 1
              show (if 4 ≤ k ∧ k < 4 + j ∧ inS i (k - 4) = true then max (E.2.2.2 k) (E.2.2.2 0) + E.1 17 s else E.2.2.2 k) = if 4 ≤ k ∧ k < 4 + (j + 1) ∧ inS i (k - 4) = true then max (E.2.2.2 k) (E.2.2.2 0) + E.1 17 s else E.2.2.2 k
              by_cases y : 4 ≤ k ∧ k < 4 + j ∧ inS i (k - 4) = true
              · rw [if_pos y, if_pos ⟨y.1, by omega, y.2.2⟩]
              · rw [if_neg y, if_neg]
                rintro ⟨y1, y2, y3⟩
                by_cases ek : k = 4 + j
                · rw [ek, show 4 + j - 4 = j by omega] at y3
                  unfold inS at y3
                  rw [beq_iff_eq] at y3
                  exact z y3
                · exact y ⟨y1, by omega, y3⟩
        cases hc : chN G (csN E s) i with
        | none =>
          rw [hc] at try_
          refine ok_pos (by decide) (try_ (fun q hq => by cases hq))
        | some q =>
          have hq := hb2 q hc
          rw [hc] at try_ skip hx4
          have hx4q := hx4 q rfl
          have hcq := hcs q.1
          refine ok_neg (nI_pos (n := q.1) (by omega)) (ok_if (fun g => try_ (fun q2 hq2 => ?_)) (fun g => skip U hfU ?_))
          · cases hq2
            rw [hx4q] at g
            exact (nI_ltI (by omega) (by omega)).mp g
          · have g : ¬ csN E s i < q.2 := fun z => g (by rw [hx4q]; exact nI_lt z (by omega))
            rw [chN, hc]
            show (if csN E s i < q.2 ∧ G i = true then _ else _) = _
            rw [if_neg (fun z => g z.1)]
      · refine ok_neg (nI_ge (by omega) (by omega)) ?_
        rw [bit_get (by omega) (by omega), nI_1, longM hqU.2.1 hv hs, Option.bind_some, hix, qi_cl (by omega), a8 15 (by decide) (by decide) j (by omega), pk_mul, nI_add]
        refine ok_if (fun z => ?_) (fun z => ?_)
        · have z : i / 2 ^ j % 2 = 1 := (nI_eq (by omega) (by decide)).mp z
          refine ok_ck (8 * lv + j) rfl (by omega) (by decide) (ih3 (E.1 9 0 - (j + 1)) _ _ (by omega) ⟨j + 1, rfl, by omega, rfl, ?_⟩)
          rw [sm, if_pos (by unfold inS; rw [z]; rfl)]
        · have z : ¬ i / 2 ^ j % 2 = 1 := fun y => z (by rw [y]; rfl)
          refine ih3 (E.1 9 0 - (j + 1)) _ _ (by omega) ⟨j + 1, rfl, by omega, rfl, ?_⟩
          rw [sm, if_neg (by unfold inS; rw [beq_iff_eq]; exact z)]
          rfl
