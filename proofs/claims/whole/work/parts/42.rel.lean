/-! the relation -/
def rV (i : Nat) (D : Nat → Nat → Nat) (r : Nat → Nat) : Prop := (∀ k, k < 32 → r k ≤ 50 * i + 10000) ∧ (D 9 1 = 0 ∨ r 1 < D 9 1) ∧ (∀ s, D 9 2 ≤ s → s < 6 → r (18 + s) = 0) ∧ (∀ s, s < 6 → r (12 + s) < 512)
theorem rV_mono {i j : Nat} {D : Nat → Nat → Nat} {r : Nat → Nat} (h : rV i D r) (hij : i ≤ j) : rV j D r := ⟨fun k hk => by have := h.1 k hk; omega, h.2⟩
def hC (n : Nat) (h : Nat → Nat → Nat) (G : Nat → Nat → Int32) : Prop := ∃ top, top < 40 ∧ G 36 1 = nI top ∧ G 36 2 = nI n ∧ n ≤ 40 ∧ ∀ j, j < n → cR (h j) G (38 + 5 * ((top + 39 - j) % 40))
def hM (n : Nat) (h : Nat → Nat → Nat) (G : Nat → Nat → Int32) : Prop := G 0 57 = nI n ∧ n ≤ 40 ∧ ∀ j, j < n → ∀ k, k < 32 → G 39 (32 * (n - 1 - j) + k) = nI (h j k)
def slC (sl : Nat → Option (Nat → Nat)) (G : Nat → Nat → Int32) : Prop := G 0 7 = nI (bt (fun s => (sl s).isSome) 3) ∧ ∀ s, s < 3 → ∀ r, sl s = some r → cR r G (239 + 5 * s)
def slM (sl : Nat → Option (Nat → Nat)) (G : Nat → Nat → Int32) : Prop := (∀ s, s < 3 → G 46 s = if (sl s).isSome = true then 1 else 0) ∧ ∀ s, s < 3 → ∀ r, sl s = some r → ∀ k, k < 32 → G 47 (32 * s + k) = nI (r k)
def mo0 (E : sE) (p t : Nat) : Nat := mxN (fun k => hrP E.1 E.2.1 E.2.2.1 0 k p t) (E.1 9 0)
def toS (E : sE) (tp ts tz : Nat → Nat) (b j : Nat) : Bool := mo0 E (tp j) (b + ts j) == tz j
def tkC (E : sE) (tn : Nat) (tp ts tz : Nat → Nat) (G : Nat → Nat → Int32) : Prop := G 268 3 = nI tn ∧ ∀ b, b < 1000 → G 269 b = nI (fs (fun j => !toS E tp ts tz b j) 0 tn)
def tkM (tn : Nat) (tp ts tz : Nat → Nat) (G : Nat → Nat → Int32) : Prop := G 0 65 = nI tn ∧ ∀ j, j < tn → G 43 j = nI (tp j) ∧ G 44 j = nI (ts j) ∧ G 45 j = nI (tz j)
def kM (S : qv_St) : Prop := ∀ k, k < 22 → S.2 7 k = mo_S.2 7 k
def RB (i : Nat) (E : sE) (lv n : Nat) (h : Nat → Nat → Nat) (sl : Nat → Option (Nat → Nat)) (tn : Nat) (tp ts tz : Nat → Nat) (S1 S2 : qv_St) : Prop :=
  (rV i E.1 E.2.2.2 ∧ (∀ j, j < n → rV i E.1 (h j)) ∧ (∀ s, s < 3 → ∀ r, sl s = some r → rV i E.1 r) ∧ tn ≤ 20 ∧ (∀ j, j < tn → tp j < E.1 9 1 ∧ ts j ≤ 99 ∧ tz j ≤ 99)) ∧ (qC E S1 ∧ hC n h S1.1 ∧ slC sl S1.1 ∧ tkC E tn tp ts tz S1.1) ∧ (qM lv E S2 ∧ hM n h S2.1 ∧ slM sl S2.1 ∧ tkM tn tp ts tz S2.1 ∧ kM S2) ∧ rT S1 S2 ∧ S1.1 7 9 = S2.1 0 17
def Rel (i : Nat) (S1 S2 : qv_St) : Prop := ∃ E lv n h sl tn tp ts tz, RB i E lv n h sl tn tp ts tz S1 S2
theorem hC_G {n : Nat} {h : Nat → Nat → Nat} {G G' : Nat → Nat → Int32} (f : ∀ q, 36 ≤ q → q < 238 → G' q = G q) (hh : hC n h G) : hC n h G' := by
  obtain ⟨top, h1, h2, h3, h4, h5⟩ := hh
  refine ⟨top, h1, by rw [f 36 (by decide) (by decide)]; exact h2, by rw [f 36 (by decide) (by decide)]; exact h3, h4, fun j hj => cR_G (fun q q1 q2 => f q ?_ ?_) (h5 j hj)⟩
  · omega
  · have : (top + 39 - j) % 40 < 40 := Nat.mod_lt _ (by decide)
    omega
theorem slC_G {sl : Nat → Option (Nat → Nat)} {G G' : Nat → Nat → Int32} (f0 : G' 0 7 = G 0 7) (f : ∀ q, 239 ≤ q → q < 254 → G' q = G q) (h : slC sl G) : slC sl G' := ⟨by rw [f0]; exact h.1, fun s hs r hr => cR_G (fun q q1 q2 => f q (by omega) (by omega)) (h.2 s hs r hr)⟩
theorem tkC_G {E : sE} {tn : Nat} {tp ts tz : Nat → Nat} {G G' : Nat → Nat → Int32} (f : G' 268 3 = G 268 3) (f2 : G' 269 = G 269) (h : tkC E tn tp ts tz G) : tkC E tn tp ts tz G' := ⟨by rw [f]; exact h.1, fun b hb => by rw [f2]; exact h.2 b hb⟩
theorem hM_G {n : Nat} {h : Nat → Nat → Nat} {G G' : Nat → Nat → Int32} (f : G' 0 57 = G 0 57) (f2 : G' 39 = G 39) (hh : hM n h G) : hM n h G' := ⟨by rw [f]; exact hh.1, hh.2.1, fun j hj k hk => by rw [f2]; exact hh.2.2 j hj k hk⟩
theorem slM_G {sl : Nat → Option (Nat → Nat)} {G G' : Nat → Nat → Int32} (f : G' 46 = G 46) (f2 : G' 47 = G 47) (h : slM sl G) : slM sl G' := ⟨fun s hs => by rw [f]; exact h.1 s hs, fun s hs r hr k hk => by rw [f2]; exact h.2 s hs r hr k hk⟩
theorem tkM_G {tn : Nat} {tp ts tz : Nat → Nat} {G G' : Nat → Nat → Int32} (f : G' 0 65 = G 0 65) (f2 : G' 43 = G 43) (f3 : G' 44 = G 44) (f4 : G' 45 = G 45) (h : tkM tn tp ts tz G) : tkM tn tp ts tz G' := ⟨by rw [f]; exact h.1, fun j hj => by rw [f2, f3, f4]; exact h.2 j hj⟩
theorem rT_G {S1 S2 T1 T2 : qv_St} (f1 : T1.1 1 1 = S1.1 1 1) (f2 : T1.1 2 = S1.1 2) (f3 : T2.1 0 2 = S2.1 0 2) (f4 : T2.1 1 = S2.1 1) (h : rT S1 S2) : rT T1 T2 := by
  obtain ⟨n, h1, h2, h3, h4⟩ := h
  exact ⟨n, h1, by rw [f1]; exact h2, by rw [f3]; exact h3, fun k hk => by rw [f2, f4]; exact h4 k hk⟩
theorem RB_w {i : Nat} {E : sE} {lv n : Nat} {h : Nat → Nat → Nat} {sl : Nat → Option (Nat → Nat)} {tn : Nat} {tp ts tz : Nat → Nat} {S1 S2 : qv_St} (hi : i ≤ 3072) (r : RB i E lv n h sl tn tp ts tz S1 S2) : wE E :=
  ⟨r.2.1.1.1, fun k hk => by have := r.1.1.1 k hk; omega, r.1.1.2⟩
theorem RB_mono {i j : Nat} {E : sE} {lv n : Nat} {h : Nat → Nat → Nat} {sl : Nat → Option (Nat → Nat)} {tn : Nat} {tp ts tz : Nat → Nat} {S1 S2 : qv_St} (hij : i ≤ j) (r : RB i E lv n h sl tn tp ts tz S1 S2) : RB j E lv n h sl tn tp ts tz S1 S2 :=
  ⟨⟨rV_mono r.1.1 hij, fun k hk => rV_mono (r.1.2.1 k hk) hij, fun s hs q hq => rV_mono (r.1.2.2.1 s hs q hq) hij, r.1.2.2.2⟩, r.2⟩
/-- a question keeps it -/
theorem RB_ask {i : Nat} {E : sE} {lv n : Nat} {h : Nat → Nat → Nat} {sl : Nat → Option (Nat → Nat)} {tn : Nat} {tp ts tz : Nat → Nat} {S1 S2 T1 T2 : qv_St} (r : RB i E lv n h sl tn tp ts tz S1 S2) (hq : qC E T1) (f1 : frE S1 T1) (f2 : frQ S2 T2) : RB i E lv n h sl tn tp ts tz T1 T2 := by
  obtain ⟨r1, ⟨c1, c2, c3, c4⟩, ⟨m1, m2, m3, m4, m5⟩, t, p⟩ := r
  have g1 : ∀ q, q ≠ 21 → q ≠ 25 → q ≠ 29 → (q < 254 ∨ 267 < q) → T1.1 q = S1.1 q := f1.2
  have g2 : ∀ q, q ≠ 0 → q ≠ 34 → q ≠ 35 → q ≠ 37 → q ≠ 38 → q ≠ 40 → q ≠ 41 → q ≠ 42 → T2.1 q = S2.1 q := f2.2.1
  have g0 : ∀ j, j ≠ 52 → j ≠ 55 → j ≠ 60 → j ≠ 62 → j ≠ 63 → T2.1 0 j = S2.1 0 j := f2.2.2
  refine ⟨r1, ⟨hq, hC_G (fun q q1 q2 => g1 q (by omega) (by omega) (by omega) (by omega)) c2, slC_G (by rw [g1 0 (by decide) (by decide) (by decide) (by decide)]) (fun q q1 q2 => g1 q (by omega) (by omega) (by omega) (by omega)) c3, tkC_G (by rw [g1 268 (by decide) (by decide) (by decide) (by decide)]) (g1 269 (by decide) (by decide) (by decide) (by decide)) c4⟩, ⟨qM_fr m1 f2, hM_G (g0 57 (by decide) (by decide) (by decide) (by decide) (by decide)) (g2 39 (by decide) (by decide) (by decide) (by decide) (by decide) (by decide) (by decide) (by decide)) m2, slM_G (g2 46 (by decide) (by decide) (by decide) (by decide) (by decide) (by decide) (by decide) (by decide)) (g2 47 (by decide) (by decide) (by decide) (by decide) (by decide) (by decide) (by decide) (by decide)) m3, tkM_G (g0 65 (by decide) (by decide) (by decide) (by decide) (by decide)) (g2 43 (by decide) (by decide) (by decide) (by decide) (by decide) (by decide) (by decide) (by decide)) (g2 44 (by decide) (by decide) (by decide) (by decide) (by decide) (by decide) (by decide) (by decide)) (g2 45 (by decide) (by decide) (by decide) (by decide) (by decide) (by decide) (by decide) (by decide)) m4, fun k hk => by rw [f2.1]; exact m5 k hk⟩, ?_, ?_⟩
  · exact rT_G (by rw [g1 1 (by decide) (by decide) (by decide) (by decide)]) (g1 2 (by decide) (by decide) (by decide) (by decide)) (g0 2 (by decide) (by decide) (by decide) (by decide) (by decide)) (g2 1 (by decide) (by decide) (by decide) (by decide) (by decide) (by decide) (by decide) (by decide)) t
  · rw [g1 7 (by decide) (by decide) (by decide) (by decide), g0 17 (by decide) (by decide) (by decide) (by decide) (by decide)]; exact p
theorem Rel_ask {i : Nat} {S1 S2 : qv_St} {o1 o2 : Option (qv_St × Int32)} (hi : i + 6 ≤ 3072) (hr : Rel i S1 S2) (ha : ∀ E lv, wE E → qC E S1 → qM lv E S2 → ask2 E S1 S2 o1 o2) : ∃ (S1' : qv_St) (S2' : qv_St) (r : Int32), o1 = some (S1', r) ∧ o2 = some (S2', r) ∧ Rel (i + 6) S1' S2' := by
  obtain ⟨E, lv, n, h, sl, tn, tp, ts, tz, r⟩ := hr
  obtain ⟨T1, T2, v, e1, e2, q1, q2, q3⟩ := ha E lv (RB_w (by omega) r) r.2.1.1 r.2.2.1.1
  exact ⟨T1, T2, v, e1, e2, E, lv, n, h, sl, tn, tp, ts, tz, RB_mono (by omega) (RB_ask r q1 q2 q3)⟩
/-! the tape -/
theorem rel_feed {i : Nat} {S1 S2 : qv_St} (a b c d e : Int32) (hi : i + 6 ≤ 3072) (hr : Rel i S1 S2) : ∃ (S1' : qv_St) (S2' : qv_St) (r : Int32), fX11_feed S1 a b c d e = some (S1', r) ∧ fX12_feed S2 a b c d e = some (S2', r) ∧ Rel (i + 6) S1' S2' := by
  obtain ⟨E, lv, n, h, sl, tn, tp, ts, tz, r⟩ := hr
  obtain ⟨t, t1, t2, t3, t4⟩ := r.2.2.2.1
  rw [feedC t2 t1, feedM t3 t1]
  by_cases g : t + 20 ≤ 2000
  · rw [if_pos g, if_pos g]
    refine ⟨_, _, _, rfl, rfl, E, lv, n, h, sl, tn, tp, ts, tz, RB_mono (i := i) (by omega) ?_⟩
    obtain ⟨r1, ⟨c1, c2, c3, c4⟩, ⟨m1, m2, m3, m4, m5⟩, _, p⟩ := r
    have g1 : ∀ q, q ≠ 1 → q ≠ 2 → (qs (qs S1 2 (tp20 (S1.1 2) t a b c d e)) 1 (upd (S1.1 1) 1 (nI (t + 20)))).1 q = S1.1 q := fun q q1 q2 => by rw [qs_ne q1, qs_ne q2]
    have g2 : ∀ q, q ≠ 0 → q ≠ 1 → (qs (qs S2 1 (tp20 (S2.1 1) t a b c d e)) 0 (upd (S2.1 0) 2 (nI (t + 20)))).1 q = S2.1 q := fun q q1 q2 => by rw [qs_ne q1, qs_ne q2]
    have g0 : ∀ j, j ≠ 2 → (qs (qs S2 1 (tp20 (S2.1 1) t a b c d e)) 0 (upd (S2.1 0) 2 (nI (t + 20)))).1 0 j = S2.1 0 j := fun j hj => by rw [qs_eq, upd_ne hj]
    refine ⟨r1, ⟨⟨c1.1, ?_, ?_⟩, hC_G (fun q q1 q2 => g1 q (by omega) (by omega)) c2, slC_G (by rw [g1 0 (by decide) (by decide)]) (fun q q1 q2 => g1 q (by omega) (by omega)) c3, tkC_G (by rw [g1 268 (by decide) (by decide)]) (g1 269 (by decide) (by decide)) c4⟩, ⟨⟨m1.1, mS_G (fun q q1 q2 => g2 q (by omega) (by omega)) (g0 18 (by decide)) m1.2.1, fun k hk => by rw [g2 36 (by decide) (by decide)]; exact m1.2.2.1 k hk, m1.2.2.2⟩, hM_G (g0 57 (by decide)) (g2 39 (by decide) (by decide)) m2, slM_G (g2 46 (by decide) (by decide)) (g2 47 (by decide) (by decide)) m3, tkM_G (g0 65 (by decide)) (g2 43 (by decide) (by decide)) (g2 44 (by decide) (by decide)) (g2 45 (by decide) (by decide)) m4, m5⟩, ?_, ?_⟩
    · obtain ⟨x1, x2, x3, x4, x5⟩ := c1.2.1
      refine ⟨cS_G (fun q q1 q2 _ _ => g1 q (by omega) (by omega)) x1, cR_G (fun q q1 q2 => g1 q (by omega) (by omega)) x2, by rw [g1 254 (by decide) (by decide)]; exact x3, ?_, ?_⟩
      · unfold cZ; rw [g1 255 (by decide) (by decide), g1 256 (by decide) (by decide), g1 257 (by decide) (by decide)]; exact x4
      · intro k hk hk2; rw [g1 258 (by decide) (by decide), g1 259 (by decide) (by decide)]; exact x5 k hk hk2
    · rcases c1.2.2 with y | ⟨p', y1, y2, y3, y4⟩
      · exact Or.inl (by rw [g1 260 (by decide) (by decide)]; exact y)
      · exact Or.inr ⟨p', by rw [g1 260 (by decide) (by decide)]; exact y1, y2, by rw [g1 261 (by decide) (by decide)]; exact y3, by rw [g1 262 (by decide) (by decide)]; exact y4⟩
    · refine ⟨t + 20, g, by rw [qs_eq, upd_eq], by rw [qs_eq, upd_eq], fun k hk => ?_⟩
      rw [qs_ne (by decide), qs_eq, qs_ne (by decide), qs_eq]
      exact tp20_agree t4 k hk
    · rw [g1 7 (by decide) (by decide), g0 17 (by decide)]; exact p
  · rw [if_neg g, if_neg g]
    exact ⟨S1, S2, -1, rfl, rfl, E, lv, n, h, sl, tn, tp, ts, tz, RB_mono (by omega) r⟩
theorem rel_back {i : Nat} {S1 S2 : qv_St} (a : Int32) (hi : i + 6 ≤ 3072) (hr : Rel i S1 S2) : ∃ (S1' : qv_St) (S2' : qv_St) (r : Int32), fX11_back S1 a = some (S1', r) ∧ fX12_back S2 a = some (S2', r) ∧ Rel (i + 6) S1' S2' := by
  obtain ⟨E, lv, n, h, sl, tn, tp, ts, tz, r⟩ := hr
  obtain ⟨t, t1, t2, t3, t4⟩ := r.2.2.2.1
  have same : Rel (i + 6) S1 S2 := ⟨E, lv, n, h, sl, tn, tp, ts, tz, RB_mono (by omega) r⟩
  rcases backC (x := a) t2 t1 with ⟨j, j1, j2, j3⟩ | ⟨j1, j2⟩
  · rcases backM (x := a) t3 t1 with ⟨k, k1, k2, k3⟩ | ⟨k1, k2⟩
    · have : k = j := (nI_eq (by omega) (by omega)).mp (k2.symm.trans j2)
      subst this
      refine ⟨_, _, _, j3, k3, E, lv, n, h, sl, tn, tp, ts, tz, RB_mono (i := i) (by omega) ?_⟩
      obtain ⟨r1, ⟨c1, c2, c3, c4⟩, ⟨m1, m2, m3, m4, m5⟩, _, p⟩ := r
      have g1 : ∀ q, q ≠ 1 → (qs S1 1 (upd (S1.1 1) 1 (nI (t - k)))).1 q = S1.1 q := fun q q1 => by rw [qs_ne q1]
      have g2 : ∀ q, q ≠ 0 → (qs S2 0 (upd (S2.1 0) 2 (nI (t - k)))).1 q = S2.1 q := fun q q1 => by rw [qs_ne q1]
      have g0 : ∀ j, j ≠ 2 → (qs S2 0 (upd (S2.1 0) 2 (nI (t - k)))).1 0 j = S2.1 0 j := fun j hj => by rw [qs_eq, upd_ne hj]
      refine ⟨r1, ⟨⟨c1.1, ?_, ?_⟩, hC_G (fun q q1 q2 => g1 q (by omega)) c2, slC_G (by rw [g1 0 (by decide)]) (fun q q1 q2 => g1 q (by omega)) c3, tkC_G (by rw [g1 268 (by decide)]) (g1 269 (by decide)) c4⟩, ⟨⟨m1.1, mS_G (fun q q1 q2 => g2 q (by omega)) (g0 18 (by decide)) m1.2.1, fun k hk => by rw [g2 36 (by decide)]; exact m1.2.2.1 k hk, m1.2.2.2⟩, hM_G (g0 57 (by decide)) (g2 39 (by decide)) m2, slM_G (g2 46 (by decide)) (g2 47 (by decide)) m3, tkM_G (g0 65 (by decide)) (g2 43 (by decide)) (g2 44 (by decide)) (g2 45 (by decide)) m4, m5⟩, ?_, ?_⟩
      · obtain ⟨x1, x2, x3, x4, x5⟩ := c1.2.1
        refine ⟨cS_G (fun q q1 q2 _ _ => g1 q (by omega)) x1, cR_G (fun q q1 q2 => g1 q (by omega)) x2, by rw [g1 254 (by decide)]; exact x3, ?_, ?_⟩
        · unfold cZ; rw [g1 255 (by decide), g1 256 (by decide), g1 257 (by decide)]; exact x4
        · intro k hk hk2; rw [g1 258 (by decide), g1 259 (by decide)]; exact x5 k hk hk2
      · rcases c1.2.2 with y | ⟨p', y1, y2, y3, y4⟩
        · exact Or.inl (by rw [g1 260 (by decide)]; exact y)
        · exact Or.inr ⟨p', by rw [g1 260 (by decide)]; exact y1, y2, by rw [g1 261 (by decide)]; exact y3, by rw [g1 262 (by decide)]; exact y4⟩
      · refine ⟨t - k, by omega, by rw [qs_eq, upd_eq], by rw [qs_eq, upd_eq], fun k' hk' => ?_⟩
        rw [qs_ne (by decide), qs_ne (by decide)]
        exact t4 k' (by omega)
      · rw [g1 7 (by decide), g0 17 (by decide)]; exact p
    · exfalso
      rw [j2] at k1
      rcases k1 with y | y
      · exact nI_pos (by omega) y
      · exact nI_nlt j1 (by omega) y
  · rcases backM (x := a) t3 t1 with ⟨k, k1, k2, k3⟩ | ⟨k1, k2⟩
    · exfalso
      rw [k2] at j1
      rcases j1 with y | y
      · exact nI_pos (by omega) y
      · exact nI_nlt k1 (by omega) y
    · exact ⟨S1, S2, -1, j2, k2, same⟩
theorem rel_place {i : Nat} {S1 S2 : qv_St} (hi : i + 6 ≤ 3072) (hr : Rel i S1 S2) : ∃ (r : Int32), fX11_place S1 = some r ∧ fX12_place S2 = some r ∧ Rel (i + 6) S1 S2 := by
  obtain ⟨E, lv, n, h, sl, tn, tp, ts, tz, r⟩ := hr
  refine ⟨S1.1 7 9, rfl, ?_, E, lv, n, h, sl, tn, tp, ts, tz, RB_mono (by omega) r⟩
  unfold fX12_place
  rw [← r.2.2.2.2]
theorem rel_shot {i : Nat} {S1 S2 : qv_St} (a b : Int32) (hi : i + 6 ≤ 3072) (hr : Rel i S1 S2) : ∃ (S2' : qv_St) (r : Int32), fX11_shot S1 a b = some r ∧ fX12_shot S2 a b = some (S2', r) ∧ Rel (i + 6) S1 S2' := by
  obtain ⟨E, lv, n, h, sl, tn, tp, ts, tz, r⟩ := hr
  obtain ⟨T2, v, e1, e2, f⟩ := call_shot r.2.1.1 r.2.2.1.1 a b
  exact ⟨T2, v, e1, e2, E, lv, n, h, sl, tn, tp, ts, tz, RB_mono (by omega) (RB_ask r r.2.1.1 frE_rf f)⟩
