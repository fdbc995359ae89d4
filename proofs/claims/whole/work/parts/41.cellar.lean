/-! cellar -/
def inT (E : sE) (p n c : Nat) : Bool := decide (c = 0 ∨ eM E p (cnt c) (5 ^ cnt c) c ≤ n)
def fw (E : sE) (p n : Nat) : Nat → Nat
  | 0 => 2 ^ (mD E) - 1
  | i + 1 => if inT E p n (2 ^ (mD E) - 1 - i) = true ∧ cnt i < cnt (fw E p n i) then i else fw E p n i
theorem fw_b {E : sE} {p n : Nat} : ∀ i, i ≤ 2 ^ (mD E) - 1 → fw E p n i ≤ 2 ^ (mD E) - 1 ∧ (fw E p n i = 2 ^ (mD E) - 1 ∨ fw E p n i < i)
  | 0, _ => ⟨Nat.le_refl _, Or.inl rfl⟩
  | i + 1, h => by
    obtain ⟨h1, h2⟩ := fw_b (E := E) (p := p) (n := n) i (by omega)
    rw [fw]
    by_cases z : inT E p n (2 ^ (mD E) - 1 - i) = true ∧ cnt i < cnt (fw E p n i)
    · rw [if_pos z]; exact ⟨by omega, Or.inr (by omega)⟩
    · rw [if_neg z]; exact ⟨h1, by omega⟩
theorem bcC : ∀ x, x < 32 → fJ6_bitCount_0f7a4 (nI x) = some (nI (cnt x)) := by decide
theorem cnt_0 : ∀ c, c < 32 → cnt c = 0 → c = 0 := by decide
theorem fewC {E : sE} {p n : Nat} {S : qv_St} (hv : vE E) (hP : PL E S) (hV : VI E p S 0 (fun k => 5 ^ k)) (hn : n ≤ 2000) : fX3_fewestLeft S (nI n) = some (nI (fw E p n (2 ^ (mD E) - 1))) := by
  have h5 := mD_le (E := E)
  have h32 : 2 ^ (mD E) ≤ 2 ^ 5 := Nat.pow_le_pow_right (by decide) h5
  have hpos : 0 < 2 ^ (mD E) := Nat.two_pow_pos _
  have key : okk (fX3_fewestLeft S (nI n)) (fun z => z = nI (fw E p n (2 ^ (mD E) - 1))) := by
    unfold fX3_fewestLeft fX3_all
    have hN5 := qN
    generalize qv_N = N at hN5 ⊢
    simp only [qj_e, Option.bind_some]
    rw [hP.1, sh1m _ (by omega)]
    refine ok_lp2 (fun m x2 x3 => ∃ i, m = 2 ^ (mD E) - 1 - i ∧ i ≤ 2 ^ (mD E) - 1 ∧ x3 = nI i ∧ x2 = nI (fw E p n i)) ?_ N (2 ^ (mD E) - 1) _ 0 ⟨0, rfl, Nat.zero_le _, rfl, rfl⟩ (by omega)
    rintro self m x2 x3 ⟨i, rfl, hi, rfl, rfl⟩ ih
    obtain ⟨b1, b2⟩ := fw_b (E := E) (p := p) (n := n) i hi
    by_cases e : i = 2 ^ (mD E) - 1
    · exact ok_pos (by rw [e]; exact Int32.le_refl _) (ok_s (by rw [e]))
    · refine ok_neg (nI_ge (by omega) (by omega)) ?_
      rw [pk_sub (by omega), qi_cl (by omega), nI_1]
      have hc0 : 2 ^ (mD E) - 1 - i ≠ 0 := by omega
      have hcn : 0 < cnt (2 ^ (mD E) - 1 - i) := by
        rcases Nat.eq_zero_or_pos (cnt (2 ^ (mD E) - 1 - i)) with z | z
        · exact absurd (cnt_0 _ (by omega) z) hc0
        · exact z
      have hcl := cnt_le _ h5 (2 ^ (mD E) - 1 - i) (by omega)
      rw [hV.1 _ (by omega) hcn]
      show okk (qv_ck _ 32 (if nI n < nI (eM E p (cnt (2 ^ (mD E) - 1 - i)) (5 ^ cnt (2 ^ (mD E) - 1 - i)) (2 ^ (mD E) - 1 - i)) then _ else _)) _
      have hor := eM_or hv (p := p) (k := cnt (2 ^ (mD E) - 1 - i)) (c := 2 ^ (mD E) - 1 - i) (by omega) (5 ^ cnt (2 ^ (mD E) - 1 - i))
      have hin : inT E p n (2 ^ (mD E) - 1 - i) = true ↔ eM E p (cnt (2 ^ (mD E) - 1 - i)) (5 ^ cnt (2 ^ (mD E) - 1 - i)) (2 ^ (mD E) - 1 - i) ≤ n := by
        unfold inT
        rw [decide_eq_true_iff]
        exact ⟨fun z => z.elim (fun y => absurd y hc0) id, Or.inr⟩
      have skip : ¬ (inT E p n (2 ^ (mD E) - 1 - i) = true ∧ cnt i < cnt (fw E p n i)) → okk (self (nI (fw E p n i)) (nI (i + 1))) (fun z => z = nI (fw E p n (2 ^ (mD E) - 1))) := fun z => ih (2 ^ (mD E) - 1 - (i + 1)) _ _ (by omega) ⟨i + 1, rfl, by omega, rfl, by rw [fw, if_neg z]⟩
      refine ok_ck _ rfl (by omega) (by decide) (ok_if (fun g => skip (fun z => ?_)) (fun g => ?_))
      · have g := (nI_ltI (by omega) (by omega)).mp g
        have := hin.mp z.1
        omega
      · have g : ¬ n < _ := fun z => g (nI_lt z (by omega))
        rw [bcC i (by omega), Option.bind_some, bcC _ (by omega), Option.bind_some]
        have c1 := cnt_le 5 (by decide) i (by omega)
        have c2 := cnt_le 5 (by decide) (fw E p n i) (by omega)
        refine ok_if (fun g2 => skip (fun z => ?_)) (fun g2 => ih (2 ^ (mD E) - 1 - (i + 1)) _ _ (by omega) ⟨i + 1, rfl, by omega, rfl, ?_⟩)
        · have g2 := (nI_leI (by omega) (by omega)).mp g2
          omega
        · have g2 : ¬ cnt (fw E p n i) ≤ cnt i := fun z => g2 (nI_le z (by omega))
          rw [fw, if_pos ⟨hin.mpr (by omega), by omega⟩]
  obtain ⟨r, h1, rfl⟩ := key
  exact h1
def soE (E : sE) (x : Nat) : Nat → Nat
  | 0 => 0
  | k + 1 => if inS x k = true then soE E x k + 2 ^ (duE E k) else soE E x k
theorem soE_lt {E : sE} {x : Nat} : ∀ k, k < mD E → soE E x k < 2 ^ (duE E k)
  | 0, _ => Nat.two_pow_pos _
  | k + 1, h => by
    have h1 := soE_lt (E := E) (x := x) k (by omega)
    have h2 : duE E k < duE E (k + 1) := dsF_inc _ k (k + 1) (by omega) h
    have h3 : 2 ^ (duE E k + 1) ≤ 2 ^ (duE E (k + 1)) := Nat.pow_le_pow_right (by decide) h2
    rw [Nat.pow_succ] at h3
    rw [soE]
    split <;> omega
theorem soE_mono {E : sE} {b s : Nat} : ∀ k, k ≤ mD E → b % 2 ^ k ≤ s % 2 ^ k → soE E b k ≤ soE E s k
  | 0, _, _ => Nat.le_refl _
  | k + 1, h, hm => by
    have l1 := soE_lt (E := E) (x := b) k (by omega)
    have ih := soE_mono (E := E) (b := b) (s := s) k (by omega)
    have m1 : b % 2 ^ k < 2 ^ k := Nat.mod_lt _ (Nat.two_pow_pos k)
    have m2 : s % 2 ^ k < 2 ^ k := Nat.mod_lt _ (Nat.two_pow_pos k)
    rw [Nat.pow_succ, Nat.mod_mul, Nat.mod_mul] at hm
    rw [soE, soE]
    unfold inS
    rcases Nat.mod_two_eq_zero_or_one (b / 2 ^ k) with z1 | z1 <;> rcases Nat.mod_two_eq_zero_or_one (s / 2 ^ k) with z2 | z2
    · rw [z1, z2] at hm ⊢
      simp only [Nat.mul_zero, Nat.add_zero] at hm
      exact ih hm
    · rw [z1, z2]
      show soE E b k ≤ soE E s k + 2 ^ (duE E k)
      omega
    · rw [z1, z2] at hm
      simp only [Nat.mul_zero, Nat.mul_one, Nat.add_zero] at hm
      omega
    · rw [z1, z2] at hm ⊢
      show soE E b k + 2 ^ (duE E k) ≤ soE E s k + 2 ^ (duE E k)
      have := ih (by omega)
      omega
theorem shotBitsC {E : sE} {S : qv_St} {x : Nat} (hv : vE E) (hP : PL E S) (hx : x < 2 ^ 31) : fX3_shotBits S (nI x) = some (nI (soE E x (mD E))) := by
  have h5 := mD_le (E := E)
  have h6 := hv.1.2.2.1
  have key : okk (fX3_shotBits S (nI x)) (fun z => z = nI (soE E x (mD E))) := by
    unfold fX3_shotBits
    have hN5 := qN
    generalize qv_N = N at hN5 ⊢
    simp only [qj_e, qb_e]
    rw [hP.1]
    refine ok_lp2 (fun m x2 x3 => ∃ i, m = mD E - i ∧ i ≤ mD E ∧ x3 = nI i ∧ x2 = nI (soE E x i)) ?_ N (mD E) 0 0 ⟨0, rfl, by omega, rfl, rfl⟩ (by omega)
    rintro self m x2 x3 ⟨i, rfl, hi, rfl, rfl⟩ ih
    by_cases e : i = mD E
    · exact ok_pos (by rw [e]; exact Int32.le_refl _) (ok_s (by rw [e]))
    · have hdu := duE_lt (E := E) (i := i) (by omega)
      refine ok_neg (nI_ge (by omega) (by omega)) ?_
      rw [bit_get hx (by omega), nI_1, qi_cl (by omega), hP.2 i (by omega), or_bit (by omega) (soE_lt i (by omega))]
      rcases Nat.mod_two_eq_zero_or_one (x / 2 ^ i) with z | z
      · exact ok_pos (by rw [z]; rfl) (ih (mD E - (i + 1)) _ _ (by omega) ⟨i + 1, rfl, by omega, rfl, by rw [soE, if_neg (by unfold inS; rw [z]; decide)]⟩)
      · exact ok_neg (by rw [z]; decide) (ok_ck i rfl (by omega) (by decide) (ih (mD E - (i + 1)) _ _ (by omega) ⟨i + 1, rfl, by omega, rfl, by rw [soE, if_pos (by unfold inS; rw [z]; decide)]⟩))
  obtain ⟨r, h1, rfl⟩ := key
  exact h1
theorem shotsOfM {E : sE} {S : qv_St} {x : Nat} (hv : vE E) (hP : dueM E S) (hx : x < 2 ^ 31) : fX12_shotsOf S (nI x) = some (nI (soE E x (mD E))) := by
  have h5 := mD_le (E := E)
  have h6 := hv.1.2.2.1
  have key : okk (fX12_shotsOf S (nI x)) (fun z => z = nI (soE E x (mD E))) := by
    unfold fX12_shotsOf
    have hN5 := qN
    generalize qv_N = N at hN5 ⊢
    simp only [qj_e, qb_e]
    rw [hP.1]
    refine ok_lp2 (fun m x2 x3 => ∃ i, m = mD E - i ∧ i ≤ mD E ∧ x3 = nI i ∧ x2 = nI (soE E x i)) ?_ N (mD E) 0 0 ⟨0, rfl, by omega, rfl, rfl⟩ (by omega)
    rintro self m x2 x3 ⟨i, rfl, hi, rfl, rfl⟩ ih
    by_cases e : i = mD E
    · exact ok_pos (by rw [e]; exact Int32.le_refl _) (ok_s (by rw [e]))
    · have hdu := duE_lt (E := E) (i := i) (by omega)
      refine ok_neg (nI_ge (by omega) (by omega)) ?_
      rw [bit_get hx (by omega), nI_1, qi_cl (by omega), hP.2 i (by omega), or_bit (by omega) (soE_lt i (by omega))]
      rcases Nat.mod_two_eq_zero_or_one (x / 2 ^ i) with z | z
      · exact ok_neg (by rw [z]; decide) (ih (mD E - (i + 1)) _ _ (by omega) ⟨i + 1, rfl, by omega, rfl, by rw [soE, if_neg (by unfold inS; rw [z]; decide)]⟩)
      · exact ok_pos (by rw [z]; rfl) (ok_ck i rfl (by omega) (by decide) (ih (mD E - (i + 1)) _ _ (by omega) ⟨i + 1, rfl, by omega, rfl, by rw [soE, if_pos (by unfold inS; rw [z]; decide)]⟩))
  obtain ⟨r, h1, rfl⟩ := key
  exact h1
theorem bitsM {x : Nat} (hx : x < 2 ^ 31) : fX12_bits (nI x) = some (nI (cnt x)) := by
  have key : okk (fX12_bits (nI x)) (fun z => z = nI (cnt x)) := by
    unfold fX12_bits
    have hN5 := qN
    generalize qv_N = N at hN5 ⊢
    simp only [qb_e]
    refine ok_lp2 (fun m x2 x3 => ∃ i, m = 8 - i ∧ i ≤ 8 ∧ x3 = nI i ∧ x2 = nI (cn (inS x) i)) ?_ N 8 0 0 ⟨0, rfl, by omega, rfl, rfl⟩ (by omega)
    rintro self m x2 x3 ⟨i, rfl, hi, rfl, rfl⟩ ih
    by_cases e : i = 8
    · exact ok_pos (by rw [e]; decide) (ok_s (by rw [e]; rfl))
    · refine ok_neg (show ¬ (8 : Int32) ≤ nI i from nI_ge (b := 8) (by omega) (by decide)) ?_
      rw [bit_get hx (by omega), nI_1, nI_add]
      refine ih (8 - (i + 1)) _ _ (by omega) ⟨i + 1, rfl, by omega, rfl, ?_⟩
      rw [cn]
      unfold inS
      rcases Nat.mod_two_eq_zero_or_one (x / 2 ^ i) with z | z
      · rw [z]; rfl
      · rw [z]; rfl
  obtain ⟨r, h1, rfl⟩ := key
  exact h1
theorem usedM {E : sE} {p way k : Nat} {q : Nat × Nat} (hv : vE E) (hk : k ≤ 5) (hw : way < 5 ^ k) (h : pf E p k way = some q) : fX12_usedBy (nI way) (nI k) = some (nI q.1) := by
  have h55 : 5 ^ k ≤ 5 ^ 5 := Nat.pow_le_pow_right (by decide) hk
  have key : okk (fX12_usedBy (nI way) (nI k)) (fun z => z = nI q.1) := by
    unfold fX12_usedBy
    have hN5 := qN
    generalize qv_N = N at hN5 ⊢
    simp only [qb_e]
    refine ok_lp3 (fun m x2 x3 x4 => ∃ t u e s, m = k - t ∧ t ≤ k ∧ x4 = nI t ∧ x3 = nI (way / 5 ^ t) ∧ x2 = nI s ∧ pf E p (k - t) (way / 5 ^ t) = some (u, e) ∧ u ||| s = q.1) ?_ N k 0 (nI way) 0 ⟨0, q.1, q.2, 0, rfl, by omega, rfl, by rw [Nat.pow_zero, Nat.div_one], rfl, by rw [Nat.pow_zero, Nat.div_one, Nat.sub_zero]; exact h, Nat.or_zero _⟩ (by omega)
    rintro self m x2 x3 x4 ⟨t, u, e, s, rfl, ht, rfl, rfl, rfl, hpf, hor⟩ ih
    have hwt : way / 5 ^ t ≤ way := Nat.div_le_self _ _
    by_cases et : t = k
    · refine ok_pos (by rw [et]; exact Int32.le_refl _) (ok_s ?_)
      rw [et, Nat.sub_self] at hpf
      cases hpf
      rw [← hor, Nat.zero_or]
    · obtain ⟨j, hj⟩ : ∃ j, k - t = j + 1 := ⟨k - t - 1, by omega⟩
      rw [hj] at hpf
      have e5 : nI (way / 5 ^ t) - nI (way / 5 ^ t) / 5 * 5 = nI (way / 5 ^ t % 5) := by
        rw [show (5 : Int32) = nI 5 from rfl, pk_rem (by omega) (by decide) (by decide)]
      have e6 : nI (way / 5 ^ t) / 5 = nI (way / 5 ^ (t + 1)) := by
        rw [show (5 : Int32) = nI 5 from rfl, pk_div (by omega) (by decide) (by decide), Nat.div_div_eq_div_mul, Nat.pow_succ]
      have hi5 : way / 5 ^ t % 5 < 5 := Nat.mod_lt _ (by decide)
      refine ok_neg (nI_ge (by omega) (by omega)) (ok_nz (by decide) (ok_nz (by decide) ?_))
      rw [e5, e6, sh1 _ (by omega), nI_or, nI_1]
      cases hr : pf E p j (way / 5 ^ t / 5) with
      | none => rw [pf_n hr] at hpf; cases hpf
      | some r =>
        rw [pf_s hr] at hpf
        by_cases z : way / 5 ^ t % 5 < mD E ∧ inS r.1 (way / 5 ^ t % 5) = false
        · rw [if_pos z] at hpf
          cases hn : nxE E p (way / 5 ^ t % 5) r.2 with
          | none => rw [hn] at hpf; cases hpf
          | some e2 =>
            rw [hn] at hpf
            cases hpf
            refine ih (k - (t + 1)) _ _ _ (by omega) ⟨t + 1, r.1, r.2, _, rfl, by omega, rfl, rfl, rfl, ?_, ?_⟩
            · rw [show k - (t + 1) = j by omega, Nat.pow_succ, ← Nat.div_div_eq_div_mul]; exact hr
            · rw [← hor, Nat.or_assoc, Nat.or_comm s]
        · rw [if_neg z] at hpf; cases hpf
  obtain ⟨r, h1, rfl⟩ := key
  exact h1
theorem andn : ∀ m, m ≤ 5 → ∀ s, s < 2 ^ m → nI (2 ^ m - 1) &&& (nI s ^^^ (-1)) = nI (2 ^ m - 1 - s) := by decide
theorem nb1 : vp_nar .boolean 1 = 1 := by rfl
theorem nb0 : vp_nar .boolean 0 = 0 := by rfl
def mkB (E : sE) (p n many way c : Nat) : Bool := decide (c = 0 ∨ (cnt c < many ∧ eM E p (cnt c) (5 ^ cnt c) c ≤ n) ∨ (cnt c = many ∧ eM E p many way c ≤ n))
theorem call_cellar {E : sE} {lv : Nat} {S1 S2 : qv_St} (hw : wE E) (h1 : qC E S1) (h2 : qM lv E S2) (a b : Int32) : ask2 E S1 S2 (fX11_cellar S1 a b) (fX12_cellar S2 a b) := by
  unfold fX11_cellar fX12_cellar
  have hN5 := qN
  generalize qv_N = N at hN5 ⊢
  simp only [qj_e, qb_e]
  rcases rgI a 0 2000 0 2000 rfl rfl (by decide) (by decide) with ⟨e1, e2⟩ | ⟨n, _, hn, rfl, e1, e2⟩
  · rw [e1, e2, b0, b0, if_pos rfl, if_pos rfl]; exact ask2_no h1
  rw [e1, e2, b1, b1, if_neg n10, if_neg n10]
  rcases rgI b 0 1 0 1 rfl rfl (by decide) (by decide) with ⟨e1, e2⟩ | ⟨w, _, hw1, rfl, e1, e2⟩
  · rw [e1, e2, b0, b0, if_pos rfl, if_pos rfl]; exact ask2_no h1
  rw [e1, e2, b1, b1, if_neg n10, if_neg n10, plC h1.2.1 h1.1, plM h2.2.1 h2.1]
  by_cases hnp : E.1 9 1 = 0
  · rw [if_pos hnp, if_pos hnp]; exact ask2_no h1
  rw [if_neg hnp, if_neg hnp]
  have hv := h1.1
  have h5 := mD_le (E := E)
  have h32 : 2 ^ (mD E) ≤ 2 ^ 5 := Nat.pow_le_pow_right (by decide) h5
  have hpos : 0 < 2 ^ (mD E) := Nat.two_pow_pos _
  have hp : E.2.2.2 1 < E.1 9 1 := by rcases hw.2.2.1 with z | z; exact absurd z hnp; exact z
  generalize hP : E.2.2.2 1 = p at hp
  obtain ⟨fb1, fb2⟩ := fw_b (E := E) (p := p) (n := n) (2 ^ (mD E) - 1) (Nat.le_refl _)
  refine ask2_mk (if nI w = 0 then nI (cnt (fw E p n (2 ^ (mD E) - 1))) else nI (soE E (fw E p n (2 ^ (mD E) - 1)) (mD E))) ?_ ?_
  · obtain ⟨T1, eT1, hT1, hf1, hP1, hen⟩ := gatherC h1
    rw [eT1, Option.bind_some]
    obtain ⟨Z, eZ, hZ, hPZ, hVZ, h0Z, hfZ⟩ := planC (p := p) hP hp hT1 hP1 hen
    rw [bind_assoc3, eZ, Option.bind_some, fewC hv hPZ hVZ hn, Option.bind_some, bcC _ (by omega), Option.bind_some, shotBitsC hv hPZ (by omega), Option.bind_some]
    refine ok_if (fun g => ok_s ⟨?_, qC_SV hZ, frE_tr hf1 hfZ⟩) (fun g => ok_s ⟨?_, qC_SV hZ, frE_tr hf1 hfZ⟩)
    · rw [if_pos g]
    · rw [if_neg g]
  · refine ok_bd (fillsDueM h2 hP hp) ?_
    rintro T ⟨hT, hfT, hdT, hbT⟩
    -- the table of sets in time
    refine ok_lp2 (fun m U x => ∃ i, m = 32 - i ∧ i ≤ 32 ∧ x = nI i ∧ (∀ c, c < i → U.1 42 c = if c = 0 then 1 else 0) ∧ U.2 = T.2 ∧ (∀ q, q ≠ 42 → U.1 q = T.1 q)) ?_ N 32 T 0 ⟨0, rfl, by omega, rfl, fun c hc => by omega, rfl, fun _ _ => rfl⟩ (by omega)
    rintro self m U x ⟨i, rfl, hi, rfl, hc, hU2, hq⟩ ih
    by_cases e : i = 32
    · refine ok_pos (by rw [e]; decide) ?_
      rw [e] at hc
      have tr : ∀ V : qv_St, V.2 = T.2 → (∀ q, q ≠ 42 → V.1 q = T.1 q) → frQ S2 V := fun V v1 v2 => frQ_tr hfT ⟨v1, fun q _ _ _ _ _ _ _ q8 => v2 q q8, fun j _ _ _ _ _ => by rw [v2 0 (by decide)]⟩
      refine ok_lp2 (fun m V x => ∃ k, m = mD E + 1 - k ∧ 1 ≤ k ∧ k ≤ mD E + 1 ∧ x = nI k ∧ (∀ c, c < 2 ^ (mD E) → V.1 42 c = if mkB E p n k 0 c = true then 1 else 0) ∧ V.2 = T.2 ∧ (∀ q, q ≠ 42 → V.1 q = T.1 q)) ?_ N (mD E + 1 - 1) U 1 ⟨1, rfl, by omega, by omega, rfl, fun c hc2 => ?_, hU2, hq⟩ (by omega)
      rotate_left
      · rw [hc c (by omega)]
        unfold mkB
        by_cases z : c = 0
        · rw [if_pos z, if_pos (decide_eq_true (Or.inl z))]
        · rw [if_neg z, if_neg]
          rw [decide_eq_true_iff]
          rintro (y | y | y)
          · exact z y
          · exact z (cnt_0 c (by omega) (by omega))
          · have : (1000000 : Nat) ≤ n := y.2
            omega
      rintro self2 m V x ⟨k, rfl, hk1, hk, rfl, hmk, hV2, hVq⟩ ih2
      have hdV : dueM E V := ⟨by rw [hVq 0 (by decide)]; exact hdT.1, fun j hj => by rw [hVq 40 (by decide)]; exact hdT.2 j hj⟩
      rw [hdV.1]
      by_cases ek : k = mD E + 1
      · refine ok_pos (by rw [ek]; exact nI_lt (by omega) (by omega)) ?_
        rw [sh1m _ (by omega)]
        have hfr := tr V hV2 hVq
        have hmk2 : ∀ c, c < 2 ^ (mD E) → V.1 42 c = if inT E p n c = true then 1 else 0 := by
          intro c hc2
          have hcl := cnt_le _ h5 c hc2
          rw [hmk c hc2]
          have : mkB E p n k 0 c = inT E p n c := by
            unfold mkB inT
            apply decide_eq_decide.mpr
            constructor
            · rintro (y | y | y)
              · exact Or.inl y
              · exact Or.inr y.2
              · omega
            · rintro (y | y)
              · exact Or.inl y
              · exact Or.inr (Or.inl ⟨by omega, y⟩)
          rw [this]
        refine ok_lp2 (fun m x4 x5 => ∃ i, m = 2 ^ (mD E) - 1 - i ∧ i ≤ 2 ^ (mD E) - 1 ∧ x5 = nI i ∧ x4 = nI (fw E p n i)) ?_ N (2 ^ (mD E) - 1) _ 0 ⟨0, rfl, Nat.zero_le _, rfl, rfl⟩ (by omega)
        rintro self3 m x4 x5 ⟨i, rfl, hi, rfl, rfl⟩ ih3
        obtain ⟨g1, g2⟩ := fw_b (E := E) (p := p) (n := n) i hi
        rw [bitsM (x := fw E p n i) (by omega), shotsOfM (x := fw E p n i) hv hdV (by omega)]
        by_cases ei : i = 2 ^ (mD E) - 1
        · refine ok_pos (by rw [ei]; exact Int32.le_refl _) (ok_if (fun g => ok_s ⟨?_, hfr⟩) (fun g => ok_s ⟨?_, hfr⟩))
          · rw [if_pos g, ei]
          · rw [if_neg g, ei]
        · refine ok_neg (nI_ge (by omega) (by omega)) ?_
          rw [andn _ h5 i (by omega), qi_cl (by omega), hmk2 _ (by omega), nI_1, bitsM (x := i) (by omega), shotsOfM (x := i) hv hdV (by omega)]
          simp only [Option.bind_some]
          have c1 := cnt_le 5 (by decide) i (by omega)
          have c2 := cnt_le 5 (by decide) (fw E p n i) (by omega)
          have skip : ¬ (inT E p n (2 ^ (mD E) - 1 - i) = true ∧ cnt i < cnt (fw E p n i)) → okk (self3 (nI (fw E p n i)) (nI (i + 1))) (fun z => z.2 = (if nI w = 0 then nI (cnt (fw E p n (2 ^ (mD E) - 1))) else nI (soE E (fw E p n (2 ^ (mD E) - 1)) (mD E))) ∧ frQ S2 z.1) := fun z => ih3 (2 ^ (mD E) - 1 - (i + 1)) _ _ (by omega) ⟨i + 1, rfl, by omega, rfl, by rw [fw, if_neg z]⟩
          refine ok_ck _ rfl (by omega) (by decide) ?_
          cases hin : inT E p n (2 ^ (mD E) - 1 - i) with
          | false => exact ok_pos rfl (skip (fun z => by rw [hin] at z; exact absurd z.1 (by decide)))
          | true =>
            refine ok_neg (by decide) (ok_if (fun g => ih3 (2 ^ (mD E) - 1 - (i + 1)) _ _ (by omega) ⟨i + 1, rfl, by omega, rfl, ?_⟩) (fun g => ?_))
            · have g := (nI_ltI (by omega) (by omega)).mp g
              rw [fw, if_pos ⟨hin, g⟩]
            · have g : ¬ cnt i < cnt (fw E p n i) := fun z => g (nI_lt z (by omega))
              refine ok_if (fun g2' => ?_) (fun _ => skip (fun z => g z.2))
              have geq : cnt i = cnt (fw E p n i) := (nI_eq (by omega) (by omega)).mp g2'
              have hso : soE E (fw E p n i) (mD E) ≤ soE E i (mD E) := by
                rcases g2 with y | y
                · exfalso
                  rw [y, cnt_all _ h5] at geq
                  exact ei (cnt_full _ h5 i (by omega) geq)
                · refine soE_mono _ (Nat.le_refl _) ?_
                  rw [Nat.mod_eq_of_lt (by omega), Nat.mod_eq_of_lt (by omega)]
                  omega
              have hsl : soE E i (mD E) < 2 ^ 31 := by
                have : soE E i (mD E) < 2 ^ 6 := by
                  cases hm0 : mD E with
                  | zero => rw [soE]; decide
                  | succ k =>
                    have l1 := soE_lt (E := E) (x := i) k (by omega)
                    have l2 := duE_lt (E := E) (i := k) (by omega)
                    have l3 : 2 ^ (duE E k) ≤ 2 ^ 5 := Nat.pow_le_pow_right (by decide) (by have := hv.1.2.2.1; omega)
                    rw [soE]
                    split <;> omega
                omega
              exact ok_pos (nI_le hso hsl) (skip (fun z => g z.2))
      · refine ok_neg (nI_nlt (by omega) (by omega)) ?_
        have hp5 : 5 ^ k ≤ 5 ^ 5 := Nat.pow_le_pow_right (by decide) (by omega)
        rw [nI_1, fivesM (by omega)]
        refine ok_lp2 (fun m Y x => ∃ i, m = 5 ^ k - i ∧ i ≤ 5 ^ k ∧ x = nI i ∧ (∀ c, c < 2 ^ (mD E) → Y.1 42 c = if mkB E p n k i c = true then 1 else 0) ∧ Y.2 = T.2 ∧ (∀ q, q ≠ 42 → Y.1 q = T.1 q)) ?_ N (5 ^ k) V 0 ⟨0, rfl, Nat.zero_le _, rfl, hmk, hV2, hVq⟩ (by omega)
        rintro self3 m Y x ⟨i, rfl, hi, rfl, hmkY, hY2, hYq⟩ ih3
        rw [Option.bind_some]
        by_cases ei : i = 5 ^ k
        · refine ok_pos (by rw [ei]; exact Int32.le_refl _) (ih2 (mD E + 1 - (k + 1)) _ _ (by omega) ⟨k + 1, rfl, by omega, by omega, rfl, fun c hc2 => ?_, hY2, hYq⟩)
          rw [hmkY c hc2]
          have : mkB E p n k i c = mkB E p n (k + 1) 0 c := by
            unfold mkB
            apply decide_eq_decide.mpr
            rw [ei]
            constructor
            · rintro (y | y | y)
              · exact Or.inl y
              · exact Or.inr (Or.inl ⟨by omega, y.2⟩)
              · exact Or.inr (Or.inl ⟨by omega, by rw [y.1]; exact y.2⟩)
            · rintro (y | y | y)
              · exact Or.inl y
              · by_cases hck : cnt c = k
                · exact Or.inr (Or.inr ⟨hck, by have := y.2; rw [hck] at this; exact this⟩)
                · exact Or.inr (Or.inl ⟨by omega, y.2⟩)
              · have : (1000000 : Nat) ≤ n := y.2
                omega
          rw [this]
        · have hdY : dueM E Y := ⟨by rw [hYq 0 (by decide)]; exact hdT.1, fun j hj => by rw [hYq 40 (by decide)]; exact hdT.2 j hj⟩
          have hbY : begM E p Y := fun i hi n hn => by rw [hYq 41 (by decide)]; exact hbT i hi n hn
          have hmY : mS lv E.1 E.2.1 Y.1 := mS_G (fun q q1 q2 => hYq q (by omega)) (by rw [hYq 0 (by decide)]) hT.1
          have hlt1 : 5 ^ k - (i + 1) < 5 ^ k - i := by omega
          have hle1 : i + 1 ≤ 5 ^ k := by omega
          refine ok_neg (nI_ge (by omega) (by omega)) ?_
          rw [endByM hv hmY hdY hbY (by omega) (by omega), Option.bind_some, nI_1]
          have skip : (∀ c, c < 2 ^ (mD E) → mkB E p n k (i + 1) c = mkB E p n k i c) → okk (self3 Y (nI (i + 1))) (fun z => z.2 = (if nI w = 0 then nI (cnt (fw E p n (2 ^ (mD E) - 1))) else nI (soE E (fw E p n (2 ^ (mD E) - 1)) (mD E))) ∧ frQ S2 z.1) := fun hs => ih3 _ _ _ hlt1 ⟨i + 1, rfl, hle1, rfl, fun c hc2 => by rw [hs c hc2]; exact hmkY c hc2, hY2, hYq⟩
          cases hpf : pf E p k i with
          | none =>
            refine ok_pos (by decide) (skip (fun c _ => ?_))
            unfold mkB
            rw [eM_n hpf]
          | some r =>
            obtain ⟨r1, r2, r3⟩ := pf_b hv _ _ _ hpf
            have hr2 : r.2 ≤ 309 * 5 := Nat.le_trans r2 (Nat.mul_le_mul_left _ (by omega))
            refine ok_neg (show ¬ nI r.2 < 0 from nI_pos (by omega)) ?_
            show okk (if nI n < nI r.2 then _ else _) _
            refine ok_if (fun g => skip (fun c _ => ?_)) (fun g => ?_)
            · have g := (nI_ltI (by omega) (by omega)).mp g
              unfold mkB
              rw [eM_s hpf]
              apply decide_eq_decide.mpr
              have : (if r.1 = c ∧ r.2 < eM E p k i c then r.2 else eM E p k i c) ≤ n ↔ eM E p k i c ≤ n := by
                by_cases z : r.1 = c ∧ r.2 < eM E p k i c
                · rw [if_pos z]; omega
                · rw [if_neg z]
              rw [this]
            · have g : ¬ n < r.2 := fun z => g (nI_lt z (by omega))
              rw [usedM hv (by omega) (by omega) hpf, Option.bind_some, qi_cl (by omega), nb1]
              refine ok_ck r.1 rfl (by omega) (by decide) ?_
              rw [qs_si]
              refine ih3 _ _ _ hlt1 ⟨i + 1, rfl, hle1, rfl, fun c hc2 => ?_, hY2, fun q q1 => ?_⟩
              · rw [qs_eq]
                by_cases ec : c = r.1
                · rw [ec, upd_eq, if_pos]
                  unfold mkB
                  rw [decide_eq_true_iff, eM_s hpf]
                  refine Or.inr (Or.inr ⟨r3, ?_⟩)
                  by_cases z : r.1 = r.1 ∧ r.2 < eM E p k i r.1
                  · rw [if_pos z]; omega
                  · rw [if_neg z]
                    have : ¬ r.2 < eM E p k i r.1 := fun y => z ⟨rfl, y⟩
                    omega
                · rw [upd_ne ec, hmkY c hc2]
                  have : mkB E p n k (i + 1) c = mkB E p n k i c := by
                    unfold mkB
                    rw [eM_s hpf, if_neg (fun z => ec z.1.symm)]
                  rw [this]
              · rw [qs_ne q1]; exact hYq q q1
    · refine ok_neg (show ¬ (32 : Int32) ≤ nI i from nI_ge (b := 32) (by omega) (by decide)) ?_
      rw [qi_cl (by omega), nI_1]
      have fin : ∀ t, t = (if i = 0 then 1 else 0) → okk (qv_ck (nI i) 32 (self (qv_si U 42 i (vp_nar .boolean t)) (nI (i + 1)))) (fun z => z.2 = (if nI w = 0 then nI (cnt (fw E p n (2 ^ (mD E) - 1))) else nI (soE E (fw E p n (2 ^ (mD E) - 1)) (mD E))) ∧ frQ S2 z.1) := by
        intro t ht
        have ht2 : vp_nar .boolean t = if i = 0 then 1 else 0 := by
          rw [ht]
          by_cases z : i = 0
          · rw [if_pos z]; exact nb1
          · rw [if_neg z]; exact nb0
        rw [ht2, qs_si]
        refine ok_ck i rfl (by omega) (by decide) (ih (32 - (i + 1)) _ _ (by omega) ⟨i + 1, rfl, by omega, rfl, fun c hc2 => ?_, hU2, fun q q1 => by rw [qs_ne q1]; exact hq q q1⟩)
        rw [qs_eq]
        by_cases ec : c = i
        · rw [ec, upd_eq]
        · rw [upd_ne ec]; exact hc c (by omega)
      refine ok_if (fun g => fin 1 ?_) (fun g => fin 0 ?_)
      · have g : i = 0 := (nI_eq (b := 0) (by omega) (by decide)).mp g
        rw [if_pos g]
      · have g : ¬ i = 0 := fun z => g (by rw [z]; rfl)
        rw [if_neg g]
