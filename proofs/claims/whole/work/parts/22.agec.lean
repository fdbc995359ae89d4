/-! ages on the class's side -/
theorem ageC {S : qv_St} {k n t f e : Nat} {clk : Bool} {seed p : Int32} (hk : k < 8) (hs : S.1 254 6 = seed) (hc : S.1 10 k = if clk = true then 1 else 0) (hf : S.1 11 k = nI f) (hf1 : f < 100000) (he : clk = true → S.1 12 k = nI e ∧ 0 < e ∧ e < 100000) (hn : S.1 13 k = nI n) (hn0 : 0 < n) (hn1 : n ≤ 99) (ht : t < 10000000) (hca : clk = false → cacheOK seed (S.1 12 k) k n (S.1 258 k) (S.1 259 k)) :
    ∃ S2, fX0_ageOf S (nI k) (nI t) p = some (S2, if p ≤ nI t then enc (-2) (ag clk f e n seed (S.1 12 k) k t) else -2) ∧ (S2 = S ∨ ∃ b, S2 = qs (qs S 258 (upd (S.1 258) k (nI t))) 259 (upd (S.1 259) k b) ∧ clk = false ∧ begOK seed (S.1 12 k) k n t b) := by
  have hq : ∀ {ρ : Type} {o : Option ρ}, qv_ck (nI k) 8 o = o := fun {ρ} {o} => qi_ck hk (by omega)
  unfold fX0_ageOf
  dsimp only [qv_j, qv_b]
  by_cases hp : p ≤ nI t
  · rw [if_pos hp, if_pos hp, hq, qi_cl (by omega)]
    cases clk with
    | false =>
      have hc0 : S.1 10 k = 0 := hc
      obtain ⟨b, hb, hbo⟩ := latC hk hs hn hn0 hn1 ht (hca rfl)
      rw [if_pos hc0, hb, qv_cm, Option.bind_some]
      dsimp only
      rw [qs_ne (show (10 : Nat) ≠ 259 by decide), qs_ne (show (10 : Nat) ≠ 258 by decide), qs_ne (show (13 : Nat) ≠ 259 by decide), qs_ne (show (13 : Nat) ≠ 258 by decide), if_pos hc0, hn]
      refine ⟨qs (qs S 258 (upd (S.1 258) k (nI t))) 259 (upd (S.1 259) k b), ?_, Or.inr ⟨b, rfl, rfl, hbo⟩⟩
      rw [show ag false f e n seed (S.1 12 k) k t = (lbI seed (S.1 12 k) k n t).map (fun u => t - u) from if_neg (by decide)]
      rcases begOK_age hbo hn1 (by omega) with ⟨u, h1, rfl, h3, h4⟩ | ⟨rfl, h4⟩
      · rw [pk_sub h1, if_pos (nI_pos' (by omega)), hq, hq, hq]
        by_cases h5 : t < u + n
        · rw [if_neg (nI_ge (show t - u < n by omega) (by omega)), h3 h5]
          rfl
        · rw [if_pos (nI_le (show n ≤ t - u by omega) (by omega)), h4 (by omega)]
          rfl
      · have e1 : nI t - (-1000) = nI (t + 1000) := by
          rw [← nI_add t 1000, show nI 1000 = (1000 : Int32) from rfl]
          grind
        rw [e1, if_pos (nI_pos' (by omega)), hq, hq, hq, if_pos (nI_le (show n ≤ t + 1000 by omega) (by omega)), h4]
        rfl
    | true =>
      have hc1 : S.1 10 k = 1 := hc
      obtain ⟨e1, e2, e3⟩ := he rfl
      rw [if_neg (show ¬ S.1 10 k = 0 by rw [hc1]; decide), hq, if_neg (show ¬ S.1 10 k = 0 by rw [hc1]; decide), hf, e1, hn]
      refine ⟨S, ?_, Or.inl rfl⟩
      rw [show ag true f e n seed (nI e) k t = (if t < f then none else if (t - f) % e < n then some ((t - f) % e) else none) from if_pos rfl]
      by_cases h1 : t < f
      · rw [if_neg (show ¬ 0 ≤ nI t - nI f by rw [Int32.le_iff_toInt_le, pk_sub_toInt (by omega) (by omega)]; show ¬ ((0 : Int) ≤ _); omega), if_pos h1]
        rfl
      · rw [pk_sub (by omega), if_pos (nI_pos' (by omega)), if_neg h1, hq, hq, if_neg (nI_nle e2 (by omega)), qv_nz, if_neg (nI_ne0 e2 (by omega)), hq, pk_rem (by omega) e2 (by omega)]
        have h3 : (t - f) % e < e := Nat.mod_lt _ e2
        by_cases h2 : (t - f) % e < n
        · rw [if_neg (nI_ge h2 (by omega)), if_pos h2]
          rfl
        · rw [if_pos (nI_le (by omega) (by omega)), if_neg h2]
          rfl
  · rw [if_neg hp, if_neg hp]
    exact ⟨S, rfl, Or.inl rfl⟩
