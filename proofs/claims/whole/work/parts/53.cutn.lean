/-! the loops of the reference's cut -/
theorem digLoop {B : Nat → Nat} {L a N : Nat} {S : qv_St} {K : Int32 → Int32 → Option qv_St} {Q : qv_St → Prop} (hN : 2000 < N) (h : txM B L S) (hB : ∀ k, B k < 256) (hL : L ≤ 2000) (ha : a < L) (hs : so (bz B L a) = 1) (hK : ∀ v : Int32, (rn B L a ≤ 4 → v = nI (dv (fun j => bz B L (a + j)) (rn B L a))) → okk (K (nI (rn B L a)) v) Q) : okk (qv_lp2 N (fun self (x3 : Int32) (x4 : Int32) => (fX12_byteAt S (nI a + x3)).bind fun r6 => (fX12_isDigit r6).bind fun r7 => if r7 = 0 then K x3 x4 else if 4 ≤ x3 then self (x3 + 1) x4 else (fX12_byteAt S (nI a + x3)).bind fun r8 => self (x3 + 1) (10 * x4 + r8 - 48)) 0 0) Q := by
  obtain ⟨r1, r2, r3, r4⟩ := rn_spec (B := B) hL ha
  refine ok_lp2 (fun m x3 x4 => ∃ j, m = rn B L a - j ∧ x3 = nI j ∧ j ≤ rn B L a ∧ (j ≤ 4 → x4 = nI (dv (fun j => bz B L (a + j)) j))) ?_ N (rn B L a) 0 0 ⟨0, rfl, rfl, by omega, fun _ => rfl⟩ (by omega)
  rintro self m x3 x4 ⟨j, rfl, rfl, hj, hv⟩ ih
  rw [nI_add, byteM h hL (by omega), Option.bind_some, digM _ (bz_lt hB), Option.bind_some]
  by_cases e : j = rn B L a
  · have := rn_end hL ha (by rw [hs]; decide)
    rw [← e, hs] at this
    rw [if_neg this]
    refine ok_pos rfl ?_
    rw [e]
    exact hK _ (fun z => by rw [← e]; exact hv (by omega))
  · have hj2 := r3 j (by omega)
    rw [hs] at hj2
    rw [if_pos hj2]
    refine ok_neg (by decide) ?_
    rw [nI_1]
    by_cases g : 4 ≤ j
    · exact ok_pos (show (4 : Int32) ≤ nI j from nI_le (a := 4) g (by omega)) (ih (rn B L a - (j + 1)) _ _ (by omega) ⟨j + 1, rfl, rfl, by omega, fun z => absurd z (by omega)⟩)
    · refine ok_neg (show ¬ (4 : Int32) ≤ nI j from nI_ge (b := 4) (by omega) (by decide)) ?_
      rw [Option.bind_some]
      refine ih (rn B L a - (j + 1)) _ _ (by omega) ⟨j + 1, rfl, rfl, by omega, fun _ => ?_⟩
      have hd := rn_digs hL ha hs j (by omega)
      rw [hv (by omega), show (10 : Int32) = nI 10 from rfl, pk_mul, nI_add, show (48 : Int32) = nI 48 from rfl, pk_sub (by omega), dv, Nat.add_sub_assoc hd.1, Nat.mul_comm]
theorem letLoop {B : Nat → Nat} {L a N : Nat} {S : qv_St} {K : Int32 → Int64 → Option qv_St} {Q : qv_St → Prop} (hN : 2000 < N) (h : txM B L S) (hB : ∀ k, B k < 256) (hL : L ≤ 2000) (ha : a < L) (hs : so (bz B L a) = 0) (hK : ∀ v : Int64, (rn B L a ≤ 8 → v = lN (cb 27 (fun j => bz B L (a + j)) (rn B L a))) → okk (K (nI (rn B L a)) v) Q) : okk (qv_lp2 N (fun self (x3 : Int32) (x4 : Int64) => (fX12_byteAt S (nI a + x3)).bind fun r9 => (fX12_isLetter r9).bind fun r10 => if r10 = 0 then K x3 x4 else if 8 ≤ x3 then self (x3 + 1) x4 else (fX12_byteAt S (nI a + x3)).bind fun r11 => (fX12_appends x4 r11).bind fun r12 => self (x3 + 1) r12) 0 0) Q := by
  obtain ⟨r1, r2, r3, r4⟩ := rn_spec (B := B) hL ha
  refine ok_lp2 (fun m x3 x4 => ∃ j, m = rn B L a - j ∧ x3 = nI j ∧ j ≤ rn B L a ∧ (j ≤ 8 → x4 = lN (cb 27 (fun j => bz B L (a + j)) j))) ?_ N (rn B L a) 0 0 ⟨0, rfl, rfl, by omega, fun _ => rfl⟩ (by omega)
  rintro self m x3 x4 ⟨j, rfl, rfl, hj, hv⟩ ih
  rw [nI_add, byteM h hL (by omega), Option.bind_some, letM _ (bz_lt hB), Option.bind_some]
  by_cases e : j = rn B L a
  · have := rn_end hL ha (by rw [hs]; decide)
    rw [← e, hs] at this
    rw [if_neg this]
    refine ok_pos rfl ?_
    rw [e]
    exact hK _ (fun z => by rw [← e]; exact hv (by omega))
  · have hj2 := r3 j (by omega)
    rw [hs] at hj2
    rw [if_pos hj2]
    refine ok_neg (by decide) ?_
    rw [nI_1]
    by_cases g : 8 ≤ j
    · exact ok_pos (show (8 : Int32) ≤ nI j from nI_le (a := 8) g (by omega)) (ih (rn B L a - (j + 1)) _ _ (by omega) ⟨j + 1, rfl, rfl, by omega, fun z => absurd z (by omega)⟩)
    · refine ok_neg (show ¬ (8 : Int32) ≤ nI j from nI_ge (b := 8) (by omega) (by decide)) ?_
      have hd := rn_lets hL ha hs j (by omega)
      rw [Option.bind_some, hv (by omega), appM hd, Option.bind_some]
      exact ih (rn B L a - (j + 1)) _ _ (by omega) ⟨j + 1, rfl, rfl, by omega, fun _ => rfl⟩
theorem keyLoop {f : Nat → Nat} {r N : Nat} {S : qv_St} {K : Int32 → Option qv_St} {Q : qv_St → Prop} (hN : 2000 < N) (hr : r ≤ 7) (hf : lets f r) (hk : ∀ k, k < 22 → S.2 7 k = lN (cb 27 (wB k) (wl k))) (h : okk (K (nI (km (wd f r)))) Q) : okk (qv_lp2 N (fun self (x6 : Int32) (x7 : Int32) => if 22 ≤ x7 then K x6 else qv_ck x7 22 <| if (lg_cmp (S.2 7 (Int32.toNatClampNeg x7)) (lN (cb 27 f r))) = 0 then self (20 + x7) (x7 + 1) else self x6 (x7 + 1)) 1 0) Q := by
  have hp : (27 : Nat) ^ 7 < 2 ^ 62 := by decide
  have hlt : cb 27 f r < 2 ^ 63 := by
    have h1 := cb_lt (b := 27) (by decide) r hf
    have h2 : (27 : Nat) ^ r ≤ 27 ^ 7 := Nat.pow_le_pow_right (by decide) hr
    omega
  have hwt : ∀ k, k < 22 → cb 27 (wB k) (wl k) < 2 ^ 63 := by
    intro k hk
    have h1 := cb_lt (b := 27) (by decide) (wl k) (w_let k hk)
    have h2 : (27 : Nat) ^ (wl k) ≤ 27 ^ 7 := Nat.pow_le_pow_right (by decide) (w_len k hk).2
    omega
  refine ok_lp2 (fun m x6 x7 => ∃ j, m = 22 - j ∧ x7 = nI j ∧ j ≤ 22 ∧ ((x6 = nI 1 ∧ ∀ i, i < j → isW f r i = false) ∨ ∃ k, k < j ∧ isW f r k = true ∧ x6 = nI (20 + k))) ?_ N 22 1 0 ⟨0, rfl, rfl, by omega, Or.inl ⟨rfl, fun i hi => by omega⟩⟩ (by omega)
  rintro self m x6 x7 ⟨j, rfl, rfl, hj, hv⟩ ih
  by_cases e : j = 22
  · refine ok_pos (by rw [e]; decide) ?_
    rcases hv with ⟨h1, h2⟩ | ⟨k, k1, k2, k3⟩
    · have : wd f r = 22 := fs_uniq (by omega) (by omega) (fun k _ hk => h2 k (by omega)) (fun h => by omega)
      rw [h1]
      rw [this] at h
      exact h
    · rw [wd_of hf (by omega) k2, km_w (by omega)] at h
      rw [k3]; exact h
  · refine ok_neg (show ¬ (22 : Int32) ≤ nI j from nI_ge (b := 22) (by omega) (by decide)) ?_
    rw [qi_ck (by omega) (by decide), qi_cl (by omega), hk j (by omega), nI_1]
    refine ok_if (fun g => ?_) (fun g => ?_)
    · have g := (pk_lEQ (hwt j (by omega)) hlt).mp ((lg_cmp_eq _ _).mp g)
      refine ih (22 - (j + 1)) _ _ (by omega) ⟨j + 1, rfl, rfl, by omega, Or.inr ⟨j, by omega, (isW_code hf (by omega)).mpr g, ?_⟩⟩
      rw [show (20 : Int32) = nI 20 from rfl, nI_add]
    · have g : isW f r j = false := by
        cases hb : isW f r j with
        | false => rfl
        | true => exact absurd ((lg_cmp_eq _ _).mpr (by rw [(isW_code hf (by omega)).mp hb])) g
      refine ih (22 - (j + 1)) _ _ (by omega) ⟨j + 1, rfl, rfl, by omega, ?_⟩
      rcases hv with ⟨h1, h2⟩ | ⟨k, k1, k2, k3⟩
      · refine Or.inl ⟨h1, fun i hi => ?_⟩
        by_cases ei : i = j
        · rw [ei]; exact g
        · exact h2 i (by omega)
      · exact Or.inr ⟨k, by omega, k2, k3⟩
