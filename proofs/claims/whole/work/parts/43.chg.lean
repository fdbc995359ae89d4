/-! what changes: history, takes, waits, rests, moves, payments -/
theorem ok_b {α τ : Type} {e : α} {k : α → Option τ} {Q : τ → Prop} (P : α → Prop) (he : P e) (hk : ∀ x, P x → okk (k x) Q) : okk (qv_b e k) Q := hk e he
theorem cq8 {ρ : Type} {o : Option ρ} : qv_cq 0 0 8 8 8 o = o := by unfold qv_cq; rw [if_neg (by decide)]
theorem cq6 {ρ : Type} {o : Option ρ} : qv_cq 0 0 6 6 6 o = o := by unfold qv_cq; rw [if_neg (by decide)]
theorem copyC {S : qv_St} {q p : Nat} {r : Nat → Nat} (hd : p + 4 < q ∨ q + 4 < p) (h : cR r S.1 p) : okk (fX6_copy S q p) (fun z => cR r z.1 q ∧ z.2 = S.2 ∧ ∀ c, (c < q ∨ q + 4 < c) → z.1 c = S.1 c) := by
  obtain ⟨a0, a1, a2, a3, a4, a5⟩ := h
  unfold fX6_copy
  refine ok_b (fun x => x.2 = S.2 ∧ (∀ c, c ≠ q → x.1 c = S.1 c) ∧ x.1 q 0 = nI (r 0)) ⟨rfl, fun c hc => by rw [qs_si, qs_ne hc], by rw [qs_si, qs_eq, upd_eq]; exact a0⟩ ?_
  rintro X ⟨x1, x2, x3⟩
  refine ok_b (fun x => x.2 = S.2 ∧ (∀ c, c ≠ q → x.1 c = S.1 c) ∧ x.1 q 0 = nI (r 0) ∧ x.1 q 1 = nI (r 1)) ⟨x1, fun c hc => by rw [qs_si, qs_ne hc]; exact x2 c hc, by rw [qs_si, qs_eq, upd_ne (by decide)]; exact x3, by rw [qs_si, qs_eq, upd_eq, x2 p (by omega)]; exact a1⟩ ?_
  rintro X ⟨x1, x2, x3, x4⟩
  refine ok_b (fun x => x.2 = S.2 ∧ (∀ c, c ≠ q → x.1 c = S.1 c) ∧ x.1 q 0 = nI (r 0) ∧ x.1 q 1 = nI (r 1) ∧ x.1 q 2 = nI (r 2)) ⟨x1, fun c hc => by rw [qs_si, qs_ne hc]; exact x2 c hc, by rw [qs_si, qs_eq, upd_ne (by decide)]; exact x3, by rw [qs_si, qs_eq, upd_ne (by decide)]; exact x4, by rw [qs_si, qs_eq, upd_eq, x2 p (by omega)]; exact a2⟩ ?_
  rintro X ⟨x1, x2, x3, x4, x5⟩
  refine ok_b (fun x => x.2 = S.2 ∧ (∀ c, c ≠ q → x.1 c = S.1 c) ∧ x.1 q 0 = nI (r 0) ∧ x.1 q 1 = nI (r 1) ∧ x.1 q 2 = nI (r 2) ∧ x.1 q 3 = nI (r 3)) ⟨x1, fun c hc => by rw [qs_si, qs_ne hc]; exact x2 c hc, by rw [qs_si, qs_eq, upd_ne (by decide)]; exact x3, by rw [qs_si, qs_eq, upd_ne (by decide)]; exact x4, by rw [qs_si, qs_eq, upd_ne (by decide)]; exact x5, by rw [qs_si, qs_eq, upd_eq, x2 p (by omega)]; exact a3⟩ ?_
  rintro X ⟨x1, x2, x3, x4, x5, x6⟩
  rw [tc0, tc8, tc6, cq8]
  have cpn : ∀ (Y : qv_St) (a b n c : Nat), c ≠ b → (qv_cp Y a 0 b 0 n).1 c = Y.1 c := fun Y a b n c hc => (qv_cp_ne (S := Y) (a := a) (sp := 0) (b := b) (dp := 0) (n := n) c hc).1
  refine ok_b (fun x => x.2 = S.2 ∧ (∀ c, c ≠ q → c ≠ q + 1 → x.1 c = S.1 c) ∧ x.1 q = X.1 q ∧ ∀ k, k < 8 → x.1 (q + 1) k = nI (r (4 + k))) ⟨x1, fun c h1 h2 => by rw [cpn _ _ _ _ _ h2]; exact x2 c h1, cpn _ _ _ _ _ (by omega), fun k hk => by rw [cp_eq, pk_cpy_in (by omega) (by omega), Nat.zero_add, Nat.sub_zero, x2 (p + 1) (by omega)]; exact a4 k hk⟩ ?_
  rintro Y ⟨y1, y2, y3, y4⟩
  rw [cq6]
  refine ok_b (fun x => x.2 = S.2 ∧ (∀ c, c ≠ q → c ≠ q + 1 → c ≠ q + 2 → x.1 c = S.1 c) ∧ x.1 q = X.1 q ∧ (∀ k, k < 8 → x.1 (q + 1) k = nI (r (4 + k))) ∧ ∀ k, k < 6 → x.1 (q + 2) k = nI (r (12 + k))) ⟨y1, fun c h1 h2 h3 => by rw [cpn _ _ _ _ _ h3]; exact y2 c h1 h2, by rw [cpn _ _ _ _ _ (by omega)]; exact y3, fun k hk => by rw [cpn _ _ _ _ _ (by omega)]; exact y4 k hk, fun k hk => by rw [cp_eq, pk_cpy_in (by omega) (by omega), Nat.zero_add, Nat.sub_zero, y2 (p + 2) (by omega) (by omega)]; exact (a5 k hk).1⟩ ?_
  rintro Z ⟨z1, z2, z3, z4, z5⟩
  rw [cq6]
  refine ok_b (fun x => x.2 = S.2 ∧ (∀ c, c ≠ q → c ≠ q + 1 → c ≠ q + 2 → c ≠ q + 3 → x.1 c = S.1 c) ∧ x.1 q = X.1 q ∧ (∀ k, k < 8 → x.1 (q + 1) k = nI (r (4 + k))) ∧ (∀ k, k < 6 → x.1 (q + 2) k = nI (r (12 + k))) ∧ ∀ k, k < 6 → x.1 (q + 3) k = nI (r (18 + k))) ⟨z1, fun c h1 h2 h3 h4 => by rw [cpn _ _ _ _ _ h4]; exact z2 c h1 h2 h3, by rw [cpn _ _ _ _ _ (by omega)]; exact z3, fun k hk => by rw [cpn _ _ _ _ _ (by omega)]; exact z4 k hk, fun k hk => by rw [cpn _ _ _ _ _ (by omega)]; exact z5 k hk, fun k hk => by rw [cp_eq, pk_cpy_in (by omega) (by omega), Nat.zero_add, Nat.sub_zero, z2 (p + 3) (by omega) (by omega) (by omega)]; exact (a5 k hk).2.1⟩ ?_
  rintro W ⟨w1, w2, w3, w4, w5, w6⟩
  rw [cq6]
  refine ok_b (fun x => x.2 = S.2 ∧ (∀ c, (c < q ∨ q + 4 < c) → x.1 c = S.1 c) ∧ x.1 q = X.1 q ∧ (∀ k, k < 8 → x.1 (q + 1) k = nI (r (4 + k))) ∧ (∀ k, k < 6 → x.1 (q + 2) k = nI (r (12 + k))) ∧ (∀ k, k < 6 → x.1 (q + 3) k = nI (r (18 + k))) ∧ ∀ k, k < 6 → x.1 (q + 4) k = nI (r (24 + k))) ⟨w1, fun c h1 => by rw [cpn _ _ _ _ _ (by omega)]; exact w2 c (by omega) (by omega) (by omega) (by omega), by rw [cpn _ _ _ _ _ (by omega)]; exact w3, fun k hk => by rw [cpn _ _ _ _ _ (by omega)]; exact w4 k hk, fun k hk => by rw [cpn _ _ _ _ _ (by omega)]; exact w5 k hk, fun k hk => by rw [cpn _ _ _ _ _ (by omega)]; exact w6 k hk, fun k hk => by rw [cp_eq, pk_cpy_in (by omega) (by omega), Nat.zero_add, Nat.sub_zero, w2 (p + 4) (by omega) (by omega) (by omega) (by omega)]; exact (a5 k hk).2.2⟩ ?_
  rintro V ⟨v1, v2, v3, v4, v5, v6, v7⟩
  exact ok_s ⟨⟨by rw [v3]; exact x3, by rw [v3]; exact x4, by rw [v3]; exact x5, by rw [v3]; exact x6, v4, fun s hs => ⟨v5 s hs, v6 s hs, v7 s hs⟩⟩, v1, v2⟩
theorem ring_at : ∀ t, t < 40 → kRing[t]? = some (38 + 5 * t) := by decide
theorem slot_at : ∀ t, t < 3 → kSlots[t]? = some (239 + 5 * t) := by decide
def pushH (R : Nat → Nat) (h : Nat → Nat → Nat) : Nat → Nat → Nat := fun j => if j = 0 then R else h (j - 1)
theorem pushC {S : qv_St} {n : Nat} {h : Nat → Nat → Nat} {R : Nat → Nat} (hR : cR R S.1 31) (hh : hC n h S.1) : okk (fX1_push S) (fun z => hC (min 40 (n + 1)) (pushH R h) z.1 ∧ z.2 = S.2 ∧ ∀ c, (c < 36 ∨ 238 ≤ c) → z.1 c = S.1 c) := by
  obtain ⟨top, h1, h2, h3, h4, h5⟩ := hh
  unfold fX1_push
  rw [h2, qi_ck h1 (by decide), qi_cl (by omega), ring_at top h1, Option.bind_some]
  refine ok_bd (copyC (q := 38 + 5 * top) (p := 31) (by omega) hR) ?_
  rintro X ⟨x1, x2, x3⟩
  refine ok_nz (by decide) ?_
  have e1 : X.1 36 1 + 1 - (X.1 36 1 + 1) / 40 * 40 = nI ((top + 1) % 40) := by
    rw [x3 36 (by omega), h2, nI_1, show (40 : Int32) = nI 40 from rfl, pk_rem (by omega) (by decide) (by decide)]
  rw [e1]
  refine ok_b (fun x => x.2 = S.2 ∧ x.1 36 1 = nI ((top + 1) % 40) ∧ x.1 36 2 = nI n ∧ ∀ c, c ≠ 36 → x.1 c = X.1 c) ⟨x2, by rw [qs_si, qs_eq, upd_eq], by rw [qs_si, qs_eq, upd_ne (by decide), x3 36 (by omega)]; exact h3, fun c hc => by rw [qs_si, qs_ne hc]⟩ ?_
  rintro Y ⟨y1, y2, y3, y4⟩
  have e2 : qv_mn 40 (Y.1 36 2 + 1) = nI (min 40 (n + 1)) := by rw [y3, nI_1, show (40 : Int32) = nI 40 from rfl, mn_nI (by decide) (by omega)]
  rw [e2]
  refine ok_b (fun x => x.2 = S.2 ∧ x.1 36 1 = nI ((top + 1) % 40) ∧ x.1 36 2 = nI (min 40 (n + 1)) ∧ ∀ c, c ≠ 36 → x.1 c = X.1 c) ⟨y1, by rw [qs_si, qs_eq, upd_ne (by decide)]; exact y2, by rw [qs_si, qs_eq, upd_eq], fun c hc => by rw [qs_si, qs_ne hc]; exact y4 c hc⟩ ?_
  rintro Z ⟨z1, z2, z3, z4⟩
  refine ok_s ⟨⟨(top + 1) % 40, Nat.mod_lt _ (by decide), z2, z3, by omega, fun j hj => ?_⟩, z1, fun c hc => by rw [z4 c (by omega), x3 c (by omega)]⟩
  by_cases ej : j = 0
  · subst ej
    have e3 : 38 + 5 * (((top + 1) % 40 + 39 - 0) % 40) = 38 + 5 * top := by omega
    rw [e3]
    exact cR_G (fun q q1 q2 => z4 q (by omega)) x1
  · have e3 : ((top + 1) % 40 + 39 - j) % 40 = (top + 39 - (j - 1)) % 40 := by omega
    have e4 : (top + 39 - (j - 1)) % 40 ≠ top := by omega
    have e5 : (top + 39 - (j - 1)) % 40 < 40 := Nat.mod_lt _ (by decide)
    rw [e3]
    unfold pushH
    rw [if_neg ej]
    exact cR_G (fun q q1 q2 => by rw [z4 q (by omega), x3 q (by omega)]) (h5 (j - 1) (by omega))
theorem popC {S : qv_St} {n : Nat} {h : Nat → Nat → Nat} (hn : 0 < n) (hh : hC n h S.1) : okk (fX1_pop S) (fun z => cR (h 0) z.1 31 ∧ hC (n - 1) (fun j => h (j + 1)) z.1 ∧ z.2 = S.2 ∧ ∀ c, (c < 31 ∨ 238 ≤ c) → z.1 c = S.1 c) := by
  obtain ⟨top, h1, h2, h3, h4, h5⟩ := hh
  unfold fX1_pop
  refine ok_neg (by rw [h3]; exact nI_nle hn (by omega)) (ok_nz (by decide) ?_)
  have e1 : S.1 36 1 + 40 - 1 - (S.1 36 1 + 40 - 1) / 40 * 40 = nI ((top + 39) % 40) := by
    rw [h2, show (40 : Int32) = nI 40 from rfl, nI_add, show (1 : Int32) = nI 1 from rfl, pk_sub (by omega), pk_rem (by omega) (by decide) (by decide)]
    rfl
  rw [e1]
  refine ok_b (fun x => x.2 = S.2 ∧ x.1 36 1 = nI ((top + 39) % 40) ∧ x.1 36 2 = nI n ∧ ∀ c, c ≠ 36 → x.1 c = S.1 c) ⟨rfl, by rw [qs_si, qs_eq, upd_eq], by rw [qs_si, qs_eq, upd_ne (by decide)]; exact h3, fun c hc => by rw [qs_si, qs_ne hc]⟩ ?_
  rintro Y ⟨y1, y2, y3, y4⟩
  have e2 : Y.1 36 2 - 1 = nI (n - 1) := by rw [y3, show (1 : Int32) = nI 1 from rfl, pk_sub (by omega)]
  rw [e2]
  refine ok_b (fun x => x.2 = S.2 ∧ x.1 36 1 = nI ((top + 39) % 40) ∧ x.1 36 2 = nI (n - 1) ∧ ∀ c, c ≠ 36 → x.1 c = S.1 c) ⟨y1, by rw [qs_si, qs_eq, upd_ne (by decide)]; exact y2, by rw [qs_si, qs_eq, upd_eq], fun c hc => by rw [qs_si, qs_ne hc]; exact y4 c hc⟩ ?_
  rintro Z ⟨z1, z2, z3, z4⟩
  have ht : (top + 39) % 40 < 40 := Nat.mod_lt _ (by decide)
  rw [z2, qi_ck ht (by decide), qi_cl (by omega), ring_at _ ht, Option.bind_some]
  have h0 := h5 0 hn
  rw [Nat.sub_zero] at h0
  refine ok_bd (copyC (q := 31) (p := 38 + 5 * ((top + 39) % 40)) (by omega) (cR_G (fun q q1 q2 => z4 q (by omega)) h0)) ?_
  rintro W ⟨w1, w2, w3⟩
  refine ok_s ⟨w1, ⟨(top + 39) % 40, ht, by rw [w3 36 (by omega)]; exact z2, by rw [w3 36 (by omega)]; exact z3, by omega, fun j hj => ?_⟩, by rw [w2, z1], fun c hc => by rw [w3 c (by omega), z4 c (by omega)]⟩
  have e3 : ((top + 39) % 40 + 39 - j) % 40 = (top + 39 - (j + 1)) % 40 := by omega
  rw [e3]
  exact cR_G (fun q q1 q2 => by rw [w3 q (by omega), z4 q (by omega)]) (h5 (j + 1) (by omega))
theorem beforeC {E : sE} {S : qv_St} {n : Nat} {h : Nat → Nat → Nat} (hH : HC E S) (hv : vE E) (hh : hC n h S.1) : okk (fX11_beforeChange S) (fun z => HC E z ∧ z.1 260 5 = -1 ∧ hC (min 40 (n + 1)) (pushH E.2.2.2 h) z.1 ∧ z.2 = S.2 ∧ ∀ c, (c < 36 ∨ 238 ≤ c) → c ≠ 260 → z.1 c = S.1 c) := by
  unfold fX11_beforeChange
  refine ok_bd (pushC hH.2.1 hh) ?_
  rintro X ⟨x1, x2, x3⟩
  unfold fX7_drop
  simp only [qb_e, Option.bind_some]
  have g : ∀ c, (c < 36 ∨ 238 ≤ c) → c ≠ 260 → (qv_si X 260 5 (-1)).1 c = S.1 c := fun c hc h2 => by rw [qs_si, qs_ne h2, x3 c hc]
  refine ok_s ⟨⟨cS_G (fun q q1 q2 _ _ => g q (by omega) (by omega)) hH.1, cR_G (fun q q1 q2 => g q (by omega) (by omega)) hH.2.1, by rw [g 254 (by omega) (by decide)]; exact hH.2.2.1, ?_, ?_⟩, by rw [qs_si, qs_eq, upd_eq], hC_G (fun q q1 q2 => by rw [qs_si, qs_ne (by omega)]) x1, x2, g⟩
  · unfold cZ
    rw [g 255 (by omega) (by decide), g 256 (by omega) (by decide), g 257 (by omega) (by decide)]
    exact hH.2.2.2.1
  · intro k hk hk2
    rw [g 258 (by omega) (by decide), g 259 (by omega) (by decide)]
    exact hH.2.2.2.2 k hk hk2
/-! the reference's keeping -/
theorem keepsRowM {S : qv_St} : okk (fX12_keepsRow S) (fun z => z.2 = S.2 ∧ (∀ k, k < 32 → z.1 36 k = S.1 37 k) ∧ ∀ q, q ≠ 36 → z.1 q = S.1 q) := by
  unfold fX12_keepsRow
  have hN5 := qN
  generalize qv_N = N at hN5 ⊢
  simp only [qb_e]
  refine ok_lp2 (fun m T x => ∃ i, m = 32 - i ∧ i ≤ 32 ∧ x = nI i ∧ T.2 = S.2 ∧ (∀ k, k < i → T.1 36 k = S.1 37 k) ∧ ∀ q, q ≠ 36 → T.1 q = S.1 q) ?_ N 32 S 0 ⟨0, rfl, by omega, rfl, rfl, fun k hk => by omega, fun _ _ => rfl⟩ (by omega)
  rintro self m T x ⟨i, rfl, hi, rfl, h2, hk, hq⟩ ih
  by_cases e : i = 32
  · exact ok_pos (by rw [e]; decide) (ok_s ⟨h2, by rw [e] at hk; exact hk, hq⟩)
  · refine ok_neg (show ¬ (32 : Int32) ≤ nI i from nI_ge (b := 32) (by omega) (by decide)) (ok_ck i rfl (by omega) (by decide) (ok_ck i rfl (by omega) (by decide) ?_))
    rw [qi_cl (by omega), nI_1, qs_si]
    refine ih (32 - (i + 1)) _ _ (by omega) ⟨i + 1, rfl, by omega, rfl, h2, fun k hk2 => ?_, fun q hq2 => by rw [qs_ne hq2]; exact hq q hq2⟩
    rw [qs_eq]
    by_cases ek : k = i
    · rw [ek, upd_eq, hq 37 (by decide)]
    · rw [upd_ne ek]; exact hk k (by omega)
theorem keepsM {S : qv_St} {n : Nat} {h : Nat → Nat → Nat} {R R' : Nat → Nat} (hh : hM n h S.1) (h36 : ∀ k, k < 32 → S.1 36 k = nI (R k)) (h37 : ∀ k, k < 32 → S.1 37 k = nI (R' k)) : okk (fX12_keeps S) (fun z => (∀ k, k < 32 → z.1 36 k = nI (R' k)) ∧ hM (min 40 (n + 1)) (pushH R h) z.1 ∧ z.2 = S.2 ∧ (∀ q, q ≠ 0 → q ≠ 36 → q ≠ 39 → z.1 q = S.1 q) ∧ ∀ j, j ≠ 57 → z.1 0 j = S.1 0 j) := by
  obtain ⟨u1, u2, u3⟩ := hh
  unfold fX12_keeps
  have hN5 := qN
  generalize qv_N = N at hN5 ⊢
  simp only [qj_e, qb_e]
  -- the store
  have store : ∀ (T : qv_St) (m : Nat) (g : Nat → Nat → Nat), m < 40 → T.1 0 57 = nI m → (∀ j, j < m → ∀ k, k < 32 → T.1 39 (32 * (m - 1 - j) + k) = nI (g j k)) → T.2 = S.2 → (∀ q, q ≠ 0 → q ≠ 39 → T.1 q = S.1 q) → (∀ j, j ≠ 57 → T.1 0 j = S.1 0 j) → okk (qv_lp2 N (fun self_1 (S_5 : qv_St) (x1_1 : Int32) => if 32 ≤ x1_1 then (fX12_keepsRow (qv_si S_5 0 57 (S_5.1 0 57 + 1))).bind fun S_4 => some S_4 else qv_ck x1_1 32 (qv_ck (32 * S_5.1 0 57 + x1_1) 1280 (self_1 (qv_si S_5 39 (Int32.toNatClampNeg (32 * S_5.1 0 57 + x1_1)) (S_5.1 36 (Int32.toNatClampNeg x1_1))) (x1_1 + 1)))) T 0) (fun z => (∀ k, k < 32 → z.1 36 k = nI (R' k)) ∧ hM (m + 1) (pushH R g) z.1 ∧ z.2 = S.2 ∧ (∀ q, q ≠ 0 → q ≠ 36 → q ≠ 39 → z.1 q = S.1 q) ∧ ∀ j, j ≠ 57 → z.1 0 j = S.1 0 j) := by
    intro T m g hm t1 t2 t3 t4 t5
    refine ok_lp2 (fun c U x => ∃ i, c = 32 - i ∧ i ≤ 32 ∧ x = nI i ∧ U.2 = S.2 ∧ U.1 0 57 = nI m ∧ (∀ j, j < m → ∀ k, k < 32 → U.1 39 (32 * (m - 1 - j) + k) = nI (g j k)) ∧ (∀ k, k < i → U.1 39 (32 * m + k) = nI (R k)) ∧ (∀ q, q ≠ 0 → q ≠ 39 → U.1 q = S.1 q) ∧ (∀ j, j ≠ 57 → U.1 0 j = S.1 0 j)) ?_ N 32 T 0 ⟨0, rfl, by omega, rfl, t3, t1, t2, fun k hk => by omega, t4, t5⟩ (by omega)
    rintro self c U x ⟨i, rfl, hi, rfl, v1, v2, v3, v4, v5, v6⟩ ih
    rw [v2, show (32 : Int32) = nI 32 from rfl, pk_mul, nI_add]
    by_cases e : i = 32
    · refine ok_pos (by rw [e]; exact Int32.le_refl _) ?_
      rw [e] at v4
      refine ok_bd keepsRowM ?_
      rintro Z ⟨z1, z2, z3⟩
      refine ok_s ⟨fun k hk => ?_, ⟨?_, by omega, fun j hj k hk => ?_⟩, by rw [z1]; exact v1, fun q q1 q2 q3 => ?_, fun j hj => ?_⟩
      · rw [z2 k hk, qs_si, qs_ne (by decide), v5 37 (by decide) (by decide)]; exact h37 k hk
      · rw [z3 0 (by decide), qs_si, qs_eq, upd_eq, nI_1]
      · rw [z3 39 (by decide), qs_si, qs_ne (by decide)]
        unfold pushH
        by_cases ej : j = 0
        · rw [if_pos ej, ej, show m + 1 - 1 - 0 = m by omega]; exact v4 k hk
        · rw [if_neg ej, show m + 1 - 1 - j = m - 1 - (j - 1) by omega]; exact v3 (j - 1) (by omega) k hk
      · rw [z3 q q2, qs_si, qs_ne q1]; exact v5 q q1 q3
      · rw [z3 0 (by decide), qs_si, qs_eq, upd_ne hj]; exact v6 j hj
    · refine ok_neg (nI_ge (by omega) (by decide)) (ok_ck i rfl (by omega) (by decide) (ok_ck (32 * m + i) rfl (by omega) (by decide) ?_))
      rw [qi_cl (by omega), qi_cl (by omega), nI_1, qs_si, v5 36 (by decide) (by decide), h36 i (by omega)]
      refine ih (32 - (i + 1)) _ _ (by omega) ⟨i + 1, rfl, by omega, rfl, v1, by rw [qs_ne (by decide)]; exact v2, fun j hj k hk => ?_, fun k hk => ?_, fun q q1 q2 => by rw [qs_ne q2]; exact v5 q q1 q2, fun j hj => by rw [qs_ne (by decide)]; exact v6 j hj⟩
      · rw [qs_eq, upd_ne (by omega)]; exact v3 j hj k hk
      · rw [qs_eq]
        by_cases ek : k = i
        · rw [ek, upd_eq]
        · rw [upd_ne (by omega)]; exact v4 k (by omega)
  rw [u1]
  by_cases e40 : n = 40
  · refine ok_pos (by rw [e40]; rfl) ?_
    refine ok_lp2 (fun c U x => ∃ i, c = 1248 - i ∧ i ≤ 1248 ∧ x = nI i ∧ U.2 = S.2 ∧ (∀ k, k < i → U.1 39 k = S.1 39 (k + 32)) ∧ (∀ k, i ≤ k → U.1 39 k = S.1 39 k) ∧ (∀ q, q ≠ 39 → U.1 q = S.1 q)) ?_ N 1248 S 0 ⟨0, rfl, by omega, rfl, rfl, fun k hk => by omega, fun _ _ => rfl, fun _ _ => rfl⟩ (by omega)
    rintro self c U x ⟨i, rfl, hi, rfl, v1, v2, v3, v4⟩ ih
    by_cases e : i = 1248
    · refine ok_pos (by rw [e]; decide) ?_
      rw [e] at v2
      have := store (qv_si U 0 57 (U.1 0 57 - 1)) 39 h (by decide) ?_ ?_ ?_ ?_ ?_
      · rw [e40]; exact this
      · rw [qs_si, qs_eq, upd_eq, v4 0 (by decide), u1, e40]; decide
      · intro j hj k hk
        rw [qs_si, qs_ne (by decide), v2 _ (by omega)]
        have := u3 j (by omega) k hk
        rw [e40] at this
        rw [show 32 * (39 - 1 - j) + k + 32 = 32 * (40 - 1 - j) + k by omega]
        exact this
      · exact v1
      · intro q q1 q2; rw [qs_si, qs_ne q1]; exact v4 q q2
      · intro j hj; rw [qs_si, qs_eq, upd_ne hj, v4 0 (by decide)]
    · have e32 : nI i + 32 = nI (i + 32) := nI_add i 32
      rw [e32]
      refine ok_neg (show ¬ (1248 : Int32) ≤ nI i from nI_ge (b := 1248) (by omega) (by decide)) (ok_ck (i + 32) rfl (by omega) (by decide) (ok_ck i rfl (by omega) (by decide) ?_))
      rw [qi_cl (by omega), qi_cl (by omega), nI_1, qs_si, v3 (i + 32) (by omega)]
      refine ih (1248 - (i + 1)) _ _ (by omega) ⟨i + 1, rfl, by omega, rfl, v1, fun k hk => ?_, fun k hk => ?_, fun q hq => by rw [qs_ne hq]; exact v4 q hq⟩
      · rw [qs_eq]
        by_cases ek : k = i
        · rw [ek, upd_eq]
        · rw [upd_ne ek]; exact v2 k (by omega)
      · rw [qs_eq, upd_ne (by omega)]; exact v3 k (by omega)
  · refine ok_neg (fun z => e40 ((nI_eq (b := 40) (by omega) (by decide)).mp z)) ?_
    have := store S n h (by omega) u1 u3 rfl (fun _ _ _ => rfl) (fun _ _ => rfl)
    rw [show min 40 (n + 1) = n + 1 by omega]
    exact this
/-- a change: what both sides must show -/
theorem chg_fin {i : Nat} {E : sE} {lv n : Nat} {h : Nat → Nat → Nat} {sl : Nat → Option (Nat → Nat)} {tn : Nat} {tp ts tz : Nat → Nat} {S1 S2 T1 T2 : qv_St} (r : RB i E lv n h sl tn tp ts tz S1 S2) (hi : i + 6 ≤ 3072) (R' : Nat → Nat) (n' : Nat) (h' : Nat → Nat → Nat) (hR : rV (i + 6) E.1 R') (hrh : ∀ j, j < n' → rV (i + 6) E.1 (h' j))
    (a1 : cR R' T1.1 31) (a2 : hC n' h' T1.1) (a3 : T1.1 260 5 = -1) (a5 : ∀ c, (c < 31 ∨ 238 ≤ c) → c ≠ 260 → T1.1 c = S1.1 c)
    (b1 : ∀ k, k < 32 → T2.1 36 k = nI (R' k)) (b2 : hM n' h' T2.1) (b3 : T2.2 = S2.2) (b4 : ∀ q, q ≠ 0 → q ≠ 34 → q ≠ 35 → q ≠ 36 → q ≠ 37 → q ≠ 38 → q ≠ 39 → T2.1 q = S2.1 q) (b5 : ∀ j, j ≠ 57 → j ≠ 55 → j ≠ 52 → T2.1 0 j = S2.1 0 j) : Rel (i + 6) T1 T2 := by
  obtain ⟨⟨r1, r2, r3, r4, r5⟩, ⟨c1, c2, c3, c4⟩, ⟨m1, m2, m3, m4, m5⟩, t, p⟩ := r
  have hv' : vE (E.1, E.2.1, E.2.2.1, R') := ⟨c1.1.1, c1.1.2.1, fun k hk => by have := hR.1 k hk; show R' k ≤ 1000000; omega⟩
  refine ⟨(E.1, E.2.1, E.2.2.1, R'), lv, n', h', sl, tn, tp, ts, tz, ⟨hR, hrh, fun s hs q hq => rV_mono (r3 s hs q hq) (by omega), r4, r5⟩, ⟨⟨hv', ?_, Or.inl a3⟩, a2, slC_G (by rw [a5 0 (by omega) (by decide)]) (fun q q1 q2 => a5 q (by omega) (by omega)) c3, tkC_G (by rw [a5 268 (by omega) (by decide)]) (a5 269 (by omega) (by decide)) c4⟩, ⟨⟨hv', mS_G (fun q q1 q2 => b4 q (by omega) (by omega) (by omega) (by omega) (by omega) (by omega) (by omega)) (b5 18 (by decide) (by decide) (by decide)) m1.2.1, b1, m1.2.2.2⟩, b2, slM_G (b4 46 (by decide) (by decide) (by decide) (by decide) (by decide) (by decide) (by decide)) (b4 47 (by decide) (by decide) (by decide) (by decide) (by decide) (by decide) (by decide)) m3, tkM_G (b5 65 (by decide) (by decide) (by decide)) (b4 43 (by decide) (by decide) (by decide) (by decide) (by decide) (by decide) (by decide)) (b4 44 (by decide) (by decide) (by decide) (by decide) (by decide) (by decide) (by decide)) (b4 45 (by decide) (by decide) (by decide) (by decide) (by decide) (by decide) (by decide)) m4, fun k hk => by rw [b3]; exact m5 k hk⟩, ?_, ?_⟩
  · obtain ⟨x1, x2, x3, x4, x5⟩ := c1.2.1
    refine ⟨cS_G (fun q q1 q2 _ _ => a5 q (by omega) (by omega)) x1, a1, by rw [a5 254 (by omega) (by decide)]; exact x3, ?_, ?_⟩
    · unfold cZ; rw [a5 255 (by omega) (by decide), a5 256 (by omega) (by decide), a5 257 (by omega) (by decide)]; exact x4
    · intro k hk hk2; rw [a5 258 (by omega) (by decide), a5 259 (by omega) (by decide)]; exact x5 k hk hk2
  · exact rT_G (by rw [a5 1 (by omega) (by decide)]) (a5 2 (by omega) (by decide)) (b5 2 (by decide) (by decide) (by decide)) (b4 1 (by decide) (by decide) (by decide) (by decide) (by decide) (by decide) (by decide)) t
  · rw [a5 7 (by omega) (by decide), b5 17 (by decide) (by decide) (by decide)]; exact p
theorem pushH_rV {i n : Nat} {D : Nat → Nat → Nat} {R : Nat → Nat} {h : Nat → Nat → Nat} (hR : rV i D R) (hh : ∀ j, j < n → rV i D (h j)) : ∀ j, j < min 40 (n + 1) → rV (i + 6) D (pushH R h j) := by
  intro j hj
  unfold pushH
  by_cases e : j = 0
  · rw [if_pos e]; exact rV_mono hR (by omega)
  · rw [if_neg e]; exact rV_mono (hh (j - 1) (by omega)) (by omega)
def stR (R : Nat → Nat) (n : Nat) : Nat → Nat := fun k => if k = 0 then R 0 + n else if k = 2 then R 2 + n else R k
theorem cR_31 {R : Nat → Nat} {G : Nat → Nat → Int32} (h : cR R G 31) : G 31 0 = nI (R 0) ∧ G 31 1 = nI (R 1) ∧ G 31 2 = nI (R 2) ∧ G 31 3 = nI (R 3) ∧ (∀ k, k < 8 → G 32 k = nI (R (4 + k))) ∧ (∀ s, s < 6 → G 33 s = nI (R (12 + s)) ∧ G 34 s = nI (R (18 + s)) ∧ G 35 s = nI (R (24 + s))) := h
theorem standC {S : qv_St} {R : Nat → Nat} {n : Nat} (h : cR R S.1 31) : okk (fX6_stand S 31 (nI n)) (fun z => cR (stR R n) z.1 31 ∧ z.2 = S.2 ∧ ∀ c, c ≠ 31 → z.1 c = S.1 c) := by
  obtain ⟨a0, a1, a2, a3, a4, a5⟩ := cR_31 h
  unfold fX6_stand
  refine ok_b (fun x => x.2 = S.2 ∧ x.1 31 0 = nI (R 0 + n) ∧ x.1 31 1 = nI (R 1) ∧ x.1 31 2 = nI (R 2) ∧ x.1 31 3 = nI (R 3) ∧ ∀ c, c ≠ 31 → x.1 c = S.1 c) ⟨rfl, by rw [qs_si, qs_eq, upd_eq, a0, nI_add], by rw [qs_si, qs_eq, upd_ne (by decide)]; exact a1, by rw [qs_si, qs_eq, upd_ne (by decide)]; exact a2, by rw [qs_si, qs_eq, upd_ne (by decide)]; exact a3, fun c hc => by rw [qs_si, qs_ne hc]⟩ ?_
  rintro X ⟨x1, x2, x3, x4, x5, x6⟩
  refine ok_b (fun x => x.2 = S.2 ∧ x.1 31 0 = nI (R 0 + n) ∧ x.1 31 1 = nI (R 1) ∧ x.1 31 2 = nI (R 2 + n) ∧ x.1 31 3 = nI (R 3) ∧ ∀ c, c ≠ 31 → x.1 c = S.1 c) ⟨x1, by rw [qs_si, qs_eq, upd_ne (by decide)]; exact x2, by rw [qs_si, qs_eq, upd_ne (by decide)]; exact x3, by rw [qs_si, qs_eq, upd_eq, x4, nI_add], by rw [qs_si, qs_eq, upd_ne (by decide)]; exact x5, fun c hc => by rw [qs_si, qs_ne hc]; exact x6 c hc⟩ ?_
  rintro Y ⟨y1, y2, y3, y4, y5, y6⟩
  refine ok_s ⟨⟨y2, y3, y4, y5, fun k hk => ?_, fun s hs => ?_⟩, y1, y6⟩
  · show Y.1 32 k = nI (stR R n (4 + k))
    rw [y6 32 (by decide), a4 k hk]
    congr 1
    unfold stR
    rw [if_neg (by omega), if_neg (by omega)]
  · show Y.1 33 s = nI (stR R n (12 + s)) ∧ Y.1 34 s = nI (stR R n (18 + s)) ∧ Y.1 35 s = nI (stR R n (24 + s))
    unfold stR
    rw [y6 33 (by decide), y6 34 (by decide), y6 35 (by decide), if_neg (by omega), if_neg (by omega), if_neg (by omega), if_neg (by omega), if_neg (by omega), if_neg (by omega)]
    exact a5 s hs
theorem standsM {S : qv_St} {R : Nat → Nat} {n : Nat} (h : ∀ k, k < 32 → S.1 37 k = nI (R k)) : okk (fX12_stands S (nI n)) (fun z => (∀ k, k < 32 → z.1 37 k = nI (stR R n k)) ∧ z.2 = S.2 ∧ ∀ q, q ≠ 37 → z.1 q = S.1 q) := by
  unfold fX12_stands
  rw [ck_c (by decide), ck_c (by decide), tc0, tc2]
  refine ok_b (fun x => x.2 = S.2 ∧ x.1 37 0 = nI (R 0 + n) ∧ (∀ k, k < 32 → k ≠ 0 → x.1 37 k = nI (R k)) ∧ ∀ q, q ≠ 37 → x.1 q = S.1 q) ⟨rfl, by rw [qs_si, qs_eq, upd_eq, h 0 (by decide), nI_add], fun k hk h0 => by rw [qs_si, qs_eq, upd_ne h0]; exact h k hk, fun q hq => by rw [qs_si, qs_ne hq]⟩ ?_
  rintro X ⟨x1, x2, x3, x4⟩
  rw [ck_c (by decide), ck_c (by decide)]
  refine ok_b (fun x => x.2 = S.2 ∧ (∀ k, k < 32 → x.1 37 k = nI (stR R n k)) ∧ ∀ q, q ≠ 37 → x.1 q = S.1 q) ⟨x1, fun k hk => ?_, fun q hq => by rw [qs_si, qs_ne hq]; exact x4 q hq⟩ ?_
  · rw [qs_si, qs_eq]
    unfold stR
    by_cases e2 : k = 2
    · rw [e2, upd_eq, x3 2 (by decide) (by decide), nI_add, if_neg (by decide), if_pos rfl]
    · rw [upd_ne e2]
      by_cases e0 : k = 0
      · rw [e0, if_pos rfl]; exact x2
      · rw [if_neg e0, if_neg e2]; exact x3 k hk e0
  · rintro Y ⟨y1, y2, y3⟩
    exact ok_s ⟨y2, y1, y3⟩
theorem rV_st {i : Nat} {D : Nat → Nat → Nat} {R : Nat → Nat} {n : Nat} (h : rV i D R) (hn : n ≤ 300) : rV (i + 6) D (stR R n) := by
  refine ⟨fun k hk => ?_, ?_, fun s h1 h2 => ?_, fun s hs => ?_⟩
  · have h0 := h.1 0 (by decide)
    have h2 := h.1 2 (by decide)
    have hk2 := h.1 k hk
    unfold stR
    by_cases e : k = 0
    · rw [if_pos e]; omega
    · rw [if_neg e]
      by_cases e2 : k = 2
      · rw [if_pos e2]; omega
      · rw [if_neg e2]; omega
  · exact h.2.1
  · unfold stR; rw [if_neg (by omega), if_neg (by omega)]; exact h.2.2.1 s h1 h2
  · unfold stR; rw [if_neg (by omega), if_neg (by omega)]; exact h.2.2.2 s hs
