/-! the class holds it: script, state, ears -/
def cS (D : Nat → Nat → Nat) (W : Nat → List lwB) (G : Nat → Nat → Int32) : Prop := G 9 0 = nI (D 9 0) ∧ G 9 1 = nI (D 9 1) ∧ G 9 2 = nI (D 9 2) ∧ G 9 15 = nI (D 9 15) ∧ G 9 16 = nI (D 9 16) ∧ G 9 17 = nI (D 9 17) ∧ (∀ q, 10 ≤ q → q ≤ 15 → ∀ k, k < D 9 0 → G q k = nI (D q k)) ∧ (∀ p, p < D 9 1 → G 16 p = nI (D 16 p)) ∧ (∀ s, s < D 9 2 → G 17 s = nI (D 17 s) ∧ G 18 s = nI (D 18 s)) ∧ cLaw G 19 (W 0) ∧ cLaw G 23 (W 1) ∧ cLaw G 27 (W 2)
def cR (R : Nat → Nat) (G : Nat → Nat → Int32) (b : Nat) : Prop := G b 0 = nI (R 0) ∧ G b 1 = nI (R 1) ∧ G b 2 = nI (R 2) ∧ G b 3 = nI (R 3) ∧ (∀ k, k < 8 → G (b + 1) k = nI (R (4 + k))) ∧ (∀ s, s < 6 → G (b + 2) s = nI (R (12 + s)) ∧ G (b + 3) s = nI (R (18 + s)) ∧ G (b + 4) s = nI (R (24 + s)))
def cZ (G : Nat → Nat → Int32) : Prop := (G 255 4 = 0 ∧ G 255 5 = 0 ∧ G 255 6 = 0) ∧ (G 256 0 = 0 ∧ G 256 1 = 0 ∧ G 256 2 = 0 ∧ G 256 3 = 0 ∧ G 256 6 = 0) ∧ (G 257 0 = 0 ∧ G 257 1 = 0 ∧ G 257 2 = 0 ∧ G 257 3 = 0 ∧ G 257 4 = 0 ∧ G 257 5 = 0 ∧ G 257 7 = 0)
def cQ (D : Nat → Nat → Nat) (sd : Int32) (G : Nat → Nat → Int32) : Prop := ∀ k, k < D 9 0 → D 10 k = 0 → cacheOK sd (nI (D 12 k)) k (D 13 k) (G 258 k) (G 259 k)
def HC (E : sE) (S : qv_St) : Prop := cS E.1 E.2.1 S.1 ∧ cR E.2.2.2 S.1 31 ∧ S.1 254 6 = E.2.2.1 ∧ cZ S.1 ∧ cQ E.1 E.2.2.1 S.1
theorem cLaw_G {G G' : Nat → Nat → Int32} {q : Nat} {brs : List lwB} (h0 : G' q = G q) (h1 : G' (q + 1) = G (q + 1)) (h : cLaw G q brs) : cLaw G' q brs := ⟨by rw [h0]; exact h.1, h.2.1, fun j hj => by rw [h1]; exact h.2.2 j hj⟩
theorem cS_G {D : Nat → Nat → Nat} {W : Nat → List lwB} {G G' : Nat → Nat → Int32} (h : ∀ q, 9 ≤ q → q ≤ 28 → q ≠ 21 → q ≠ 25 → G' q = G q) (hc : cS D W G) : cS D W G' := by
  obtain ⟨a0, a1, a2, a3, a4, a5, a6, a7, a8, a9, a10, a11⟩ := hc
  have h9 := h 9 (by decide) (by decide) (by decide) (by decide)
  refine ⟨by rw [h9]; exact a0, by rw [h9]; exact a1, by rw [h9]; exact a2, by rw [h9]; exact a3, by rw [h9]; exact a4, by rw [h9]; exact a5, fun q q1 q2 k hk => by rw [h q (by omega) (by omega) (by omega) (by omega)]; exact a6 q q1 q2 k hk, fun p hp => by rw [h 16 (by decide) (by decide) (by decide) (by decide)]; exact a7 p hp, fun s hs => by rw [h 17 (by decide) (by decide) (by decide) (by decide), h 18 (by decide) (by decide) (by decide) (by decide)]; exact a8 s hs, cLaw_G (h 19 (by decide) (by decide) (by decide) (by decide)) (h 20 (by decide) (by decide) (by decide) (by decide)) a9, cLaw_G (h 23 (by decide) (by decide) (by decide) (by decide)) (h 24 (by decide) (by decide) (by decide) (by decide)) a10, cLaw_G (h 27 (by decide) (by decide) (by decide) (by decide)) (h 28 (by decide) (by decide) (by decide) (by decide)) a11⟩
theorem cR_G {R : Nat → Nat} {b : Nat} {G G' : Nat → Nat → Int32} (h : ∀ q, b ≤ q → q ≤ b + 4 → G' q = G q) (hc : cR R G b) : cR R G' b := by
  obtain ⟨a0, a1, a2, a3, a4, a5⟩ := hc
  have h0 := h b (by omega) (by omega)
  refine ⟨by rw [h0]; exact a0, by rw [h0]; exact a1, by rw [h0]; exact a2, by rw [h0]; exact a3, fun k hk => by rw [h (b + 1) (by omega) (by omega)]; exact a4 k hk, fun s hs => by rw [h (b + 2) (by omega) (by omega), h (b + 3) (by omega) (by omega), h (b + 4) (by omega) (by omega)]; exact a5 s hs⟩
def frC (S S' : qv_St) : Prop := S'.2 = S.2 ∧ (∀ q, q ≠ 21 → q ≠ 25 → q ≠ 29 → (q < 255 ∨ 259 < q) → S'.1 q = S.1 q)
theorem frC_rf {S : qv_St} : frC S S := ⟨rfl, fun _ _ _ _ _ => rfl⟩
theorem frC_tr {S T U : qv_St} (h : frC S T) (h2 : frC T U) : frC S U := ⟨h2.1.trans h.1, fun q a b c d => (h2.2 q a b c d).trans (h.2 q a b c d)⟩
theorem frC_qs {S : qv_St} {q : Nat} {f : Nat → Int32} (h : q = 21 ∨ q = 25 ∨ q = 29 ∨ (255 ≤ q ∧ q ≤ 259)) : frC S (qs S q f) := ⟨rfl, fun i a b c d => qs_ne (by omega)⟩
theorem cS_fr {D : Nat → Nat → Nat} {W : Nat → List lwB} {S T : qv_St} (f : frC S T) (h : cS D W S.1) : cS D W T.1 := cS_G (fun q a b c d => f.2 q c d (by omega) (by omega)) h
theorem cR_fr {R : Nat → Nat} {b : Nat} {S T : qv_St} (f : frC S T) (hb : (30 ≤ b ∧ b + 4 < 255)) (h : cR R S.1 b) : cR R T.1 b := cR_G (fun q a c => f.2 q (by omega) (by omega) (by omega) (by omega)) h
theorem HC_fr {E : sE} {S T : qv_St} (h : HC E S) (f : frC S T) (hz : cZ T.1) (hq : cQ E.1 E.2.2.1 T.1) : HC E T := ⟨cS_fr f h.1, cR_fr f (by decide) h.2.1, by rw [f.2 254 (by decide) (by decide) (by decide) (by decide)]; exact h.2.2.1, hz, hq⟩
theorem begOK_cache {seed ev : Int32} {k n t : Nat} {b : Int32} (h : begOK seed ev k n t b) (ht : t < 100000000) : cacheOK seed ev k n (nI t) b := Or.inr ⟨t, ht, rfl, h⟩
theorem ageC2 {E : sE} {S : qv_St} {k t pd : Nat} (h : HC E S) (hv : vE E) (hk : k < E.1 9 0) (ht : t < 10000000) (hpd : pd < 10000000) : okk (fX0_ageOf S (nI k) (nI t) (nI pd)) (fun z => z.2 = enc (-2) (agP E.1 E.2.2.1 pd k t) ∧ HC E z.1 ∧ frC S z.1) := by
  obtain ⟨⟨a0, a1, a2, a3, a4, a5, a6, a7, a8, a9, a10, a11⟩, hR, hsd, hz, hq⟩ := h
  have hH : HC E S := ⟨⟨a0, a1, a2, a3, a4, a5, a6, a7, a8, a9, a10, a11⟩, hR, hsd, hz, hq⟩
  obtain ⟨⟨c1, c2, c3, c4, c5, c6, c7, c8, c9⟩, v2, v3⟩ := hv
  obtain ⟨d1, d2, d3, d4, d5, d6, d7, d8⟩ := c7 k hk
  have hc : S.1 10 k = if (E.1 10 k == 1) = true then 1 else 0 := by
    rw [a6 10 (by decide) (by decide) k hk]
    rcases (by omega : E.1 10 k = 0 ∨ E.1 10 k = 1) with e | e <;> rw [e] <;> rfl
  have e12 := a6 12 (by decide) (by decide) k hk
  obtain ⟨S2, h1, h2⟩ := ageC (S := S) (k := k) (n := E.1 13 k) (t := t) (f := E.1 11 k) (e := E.1 12 k) (clk := (E.1 10 k == 1)) (seed := E.2.2.1) (p := nI pd) (by omega) hsd hc (a6 11 (by decide) (by decide) k hk) (by omega) (fun z => ⟨e12, d3 (by simpa using z), by omega⟩) (a6 13 (by decide) (by decide) k hk) d5 d6 ht (fun z => by rw [e12]; exact hq k hk (by rcases (by omega : E.1 10 k = 0 ∨ E.1 10 k = 1) with e | e; exact e; rw [e] at z; cases z))
  refine ⟨_, h1, ?_, ?_⟩
  · show (if nI pd ≤ nI t then enc (-2) (ag (E.1 10 k == 1) (E.1 11 k) (E.1 12 k) (E.1 13 k) E.2.2.1 (S.1 12 k) k t) else -2) = _
    unfold agP
    rw [e12]
    by_cases h3 : t < pd
    · rw [if_neg (nI_ge h3 (by omega)), if_pos h3]; rfl
    · rw [if_pos (nI_le (by omega) (by omega)), if_neg h3]
  · show HC E S2 ∧ frC S S2
    rcases h2 with rfl | ⟨b, rfl, hb1, hb2⟩
    · exact ⟨hH, frC_rf⟩
    · rw [e12] at hb2
      have hf : frC S (qs (qs S 258 (upd (S.1 258) k (nI t))) 259 (upd (S.1 259) k b)) := frC_tr (frC_qs (by omega)) (frC_qs (by omega))
      have e8 : (qs (qs S 258 (upd (S.1 258) k (nI t))) 259 (upd (S.1 259) k b)).1 258 = upd (S.1 258) k (nI t) := by rw [qs_ne (by decide), qs_eq]
      have e9 : (qs (qs S 258 (upd (S.1 258) k (nI t))) 259 (upd (S.1 259) k b)).1 259 = upd (S.1 259) k b := by rw [qs_eq]
      have g : ∀ q, q ≠ 258 → q ≠ 259 → (qs (qs S 258 (upd (S.1 258) k (nI t))) 259 (upd (S.1 259) k b)).1 q = S.1 q := fun q x y => by rw [qs_ne y, qs_ne x]
      refine ⟨HC_fr hH hf ?_ ?_, hf⟩
      · unfold cZ
        rw [g 255 (by decide) (by decide), g 256 (by decide) (by decide), g 257 (by decide) (by decide)]
        exact hz
      · intro j hj hj2
        rw [e8, e9]
        by_cases hjk : j = k
        · subst hjk
          rw [upd_eq, upd_eq]
          exact begOK_cache hb2 (by omega)
        · rw [upd_ne hjk, upd_ne hjk]
          exact hq j hj hj2
theorem heardC {E : sE} {S : qv_St} {k p t : Nat} {o : Option Nat} (h : HC E S) (hv : vE E) (hk : k < E.1 9 0) (hp : p < E.1 9 1) (ho : ∀ a, o = some a → a < 100) : okk (fX0_heardOf S (nI k) (nI p) (nI t) (enc (-2) o)) (fun z => z.2 = nI (hrA E.1 E.2.1 k p t o) ∧ HC E z.1 ∧ frC S z.1) := by
  unfold fX0_heardOf
  simp only [qj_e, qb_e]
  cases o with
  | none => exact ok_pos (by decide) (ok_s ⟨rfl, h, frC_rf⟩)
  | some a =>
    have ha := ho a rfl
    have hH := h
    obtain ⟨⟨a0, a1, a2, a3, a4, a5, a6, a7, a8, a9, a10, a11⟩, hR, hsd, hz, hq⟩ := h
    obtain ⟨⟨c1, c2, c3, c4, c5, c6, c7, c8, c9⟩, v2, v3⟩ := hv
    refine ok_neg (nI_pos (by omega)) (ok_neg (nI_pos (by omega)) (ok_pos (by rw [a1]; exact nI_lt hp (by omega)) ?_))
    have s14 : ∀ f, (qs S 255 f).1 14 = S.1 14 := fun f => qs_ne (by decide)
    have s13 : ∀ f, (qs S 255 f).1 13 = S.1 13 := fun f => qs_ne (by decide)
    have s16 : ∀ f, (qs S 255 f).1 16 = S.1 16 := fun f => qs_ne (by decide)
    simp only [enc_s, tc0, tc1, tc2, tc3, tc7, tc8, qs_si, qs_qs, qs_eq, s14, s13, s16]
    simp only [qi_cl (show k < 2 ^ 31 by omega), qi_cl (show p < 2 ^ 31 by omega), a6 14 (by decide) (by decide) k hk, a6 13 (by decide) (by decide) k hk, a7 p hp]
    refine ok_ck _ rfl (by omega) (by omega) (ok_ck 0 rfl (by decide) (by decide) (ok_ck 1 rfl (by decide) (by decide) (ok_ck _ rfl (by omega) (by omega) (ok_ck 2 rfl (by decide) (by decide) (ok_ck _ rfl (by omega) (by omega) (ok_ck 3 rfl (by decide) (by decide) (ok_ck 7 rfl (by decide) (by decide) (ok_ck 8 rfl (by decide) (by decide) ?_))))))))
    have hvar : ∀ j, j < 9 → upd (upd (upd (upd (upd (upd (S.1 255) 0 (nI (E.1 14 k))) 1 (nI a)) 2 (nI (E.1 13 k))) 3 (nI (E.1 16 p))) 7 (nI k)) 8 (nI t) j = vrH E.1 k p t a j := lt9 ⟨rfl, rfl, rfl, rfl, hz.1.1, hz.1.2.1, hz.1.2.2, rfl, rfl⟩
    have hlw := lawV_congr hvar (E.2.1 0) (v2 0 (by decide))
    refine ok_cm (answerC (brs := E.2.1 0) (cLaw_G (qs_ne (by decide)) (qs_ne (by decide)) a9) (v2 0 (by decide)) (by decide)) ?_
    rintro S7 r ⟨hr, P, hP⟩
    have hr : r = _ := hr
    have hP : S7 = _ := hP
    subst hP
    rw [qs_eq, hlw] at hr
    subst hr
    have g : ∀ q, q ≠ 255 → q ≠ 21 → (qs (qs S 255 (upd (upd (upd (upd (upd (upd (S.1 255) 0 (nI (E.1 14 k))) 1 (nI a)) 2 (nI (E.1 13 k))) 3 (nI (E.1 16 p))) 7 (nI k)) 8 (nI t))) (19 + 2) P).1 q = S.1 q := fun q x y => by rw [qs_ne y, qs_ne x]
    have hf : frC S (qs (qs S 255 (upd (upd (upd (upd (upd (upd (S.1 255) 0 (nI (E.1 14 k))) 1 (nI a)) 2 (nI (E.1 13 k))) 3 (nI (E.1 16 p))) 7 (nI k)) 8 (nI t))) (19 + 2) P) := frC_tr (frC_qs (by omega)) (frC_qs (by omega))
    refine ok_s ⟨?_, HC_fr hH hf ?_ ?_, hf⟩
    · show qv_mx 0 (qv_mn 99 _) = _
      rw [clp_mm, clp99]
      rfl
    · unfold cZ
      rw [g 256 (by decide) (by decide), g 257 (by decide) (by decide), qs_ne (show (255 : Nat) ≠ 19 + 2 by decide), qs_eq]
      exact ⟨hz.1, hz.2⟩
    · intro j hj hj2
      rw [g 258 (by decide) (by decide), g 259 (by decide) (by decide)]
      exact hq j hj hj2
theorem borneC {E : sE} {S : qv_St} {s k t : Nat} (h : HC E S) (hv : vE E) (hs : s < E.1 9 2) : okk (fX0_borne S (nI s) (nI k) (nI t)) (fun z => z.2 = nI (beE E s k t) ∧ HC E z.1 ∧ frC S z.1) := by
  unfold fX0_borne
  simp only [qj_e, qb_e]
  have hH := h
  obtain ⟨⟨a0, a1, a2, a3, a4, a5, a6, a7, a8, a9, a10, a11⟩, hR, hsd, hz, hq⟩ := h
  obtain ⟨⟨c1, c2, c3, c4, c5, c6, c7, c8, c9⟩, v2, v3⟩ := hv
  have s18 : ∀ f, (qs S 256 f).1 18 = S.1 18 := fun f => qs_ne (by decide)
  simp only [tc4, tc5, tc7, tc8, qs_si, qs_qs, qs_eq, s18]
  simp only [qi_cl (show s < 2 ^ 31 by omega), (a8 s hs).2]
  refine ok_ck _ rfl (by omega) (by omega) (ok_ck 4 rfl (by decide) (by decide) (ok_ck 5 rfl (by decide) (by decide) (ok_ck 7 rfl (by decide) (by decide) (ok_ck 8 rfl (by decide) (by decide) ?_))))
  have hvar : ∀ j, j < 9 → upd (upd (upd (upd (S.1 256) 4 (nI (E.1 18 s))) 5 (nI k)) 7 (nI s)) 8 (nI t) j = vrB E.1 s k t j := lt9 ⟨hz.2.1.1, hz.2.1.2.1, hz.2.1.2.2.1, hz.2.1.2.2.2.1, rfl, rfl, hz.2.1.2.2.2.2, rfl, rfl⟩
  have hlw := lawV_congr hvar (E.2.1 1) (v2 1 (by decide))
  refine ok_cm (answerC (brs := E.2.1 1) (cLaw_G (qs_ne (by decide)) (qs_ne (by decide)) a10) (v2 1 (by decide)) (by decide)) ?_
  rintro S7 r ⟨hr, P, hP⟩
  have hr : r = _ := hr
  have hP : S7 = _ := hP
  subst hP
  rw [qs_eq, hlw] at hr
  subst hr
  have g : ∀ q, q ≠ 256 → q ≠ 25 → (qs (qs S 256 (upd (upd (upd (upd (S.1 256) 4 (nI (E.1 18 s))) 5 (nI k)) 7 (nI s)) 8 (nI t))) (23 + 2) P).1 q = S.1 q := fun q x y => by rw [qs_ne y, qs_ne x]
  have hf : frC S (qs (qs S 256 (upd (upd (upd (upd (S.1 256) 4 (nI (E.1 18 s))) 5 (nI k)) 7 (nI s)) 8 (nI t))) (23 + 2) P) := frC_tr (frC_qs (by omega)) (frC_qs (by omega))
  refine ok_s ⟨?_, HC_fr hH hf ?_ ?_, hf⟩
  · show qv_mx 0 (qv_mn 99 _) = _
    rw [clp_mm, clp99]
    rfl
  · unfold cZ
    rw [g 255 (by decide) (by decide), g 257 (by decide) (by decide), qs_ne (show (256 : Nat) ≠ 23 + 2 by decide), qs_eq]
    exact ⟨hz.1, hz.2.1, hz.2.2⟩
  · intro j hj hj2
    rw [g 258 (by decide) (by decide), g 259 (by decide) (by decide)]
    exact hq j hj hj2
theorem lotI_lt {sd w : Int32} : ∃ j, j < 100 ∧ lotI sd w = nI j := by
  unfold lotI
  have h : ∃ n, n < 2 ^ 31 ∧ (Int32.toUInt32 (mixI (mixI sd 79) w) >>> (Int32.toUInt32 1 &&& Int32.toUInt32 31)).toInt32 = nI n := by
    have h1 := pk_ushr (mixI (mixI sd 79) w) 1 1 (by decide)
    refine ⟨(mixI (mixI sd 79) w).toBitVec.toNat / 2 ^ 1, by have := (mixI (mixI sd 79) w).toBitVec.isLt; omega, ?_⟩
    rw [← h1]
    apply Int32.toBitVec_inj.mp
    apply BitVec.eq_of_toNat_eq
    rw [pk_tn (BitVec.isLt _)]
  obtain ⟨n, hn, e⟩ := h
  rw [e, show (100 : Int32) = nI 100 from rfl, pk_rem hn (by decide) (by decide)]
  exact ⟨n % 100, Nat.mod_lt _ (by decide), rfl⟩
theorem lotI_clp {sd w x : Int32} : (¬ x ≤ 0 ∧ ¬ x ≤ lotI sd w) ↔ lotI sd w < nI (cN 100 x) := by
  rw [← clp100]
  obtain ⟨j, hj, e⟩ := lotI_lt (sd := sd) (w := w)
  rw [e]
  unfold clp
  by_cases h1 : x < 0
  · rw [if_pos h1]
    exact ⟨fun z => absurd (Int32.le_of_lt h1) z.1, fun z => absurd z (nI_pos (by omega))⟩
  · rw [if_neg h1]
    obtain ⟨m, hm, rfl⟩ := nI_of h1
    by_cases h2 : 100 < nI m
    · rw [if_pos h2]
      have h3 : 100 < m := (nI_ltI (a := 100) (by decide) hm).mp h2
      exact ⟨fun _ => nI_lt (b := 100) hj (by decide), fun _ => ⟨nI_nle (by omega) hm, nI_ge (by omega) hm⟩⟩
    · rw [if_neg h2]
      refine ⟨fun z => Int32.not_le.mp z.2, fun z => ⟨fun y => ?_, Int32.not_le.mpr z⟩⟩
      have := (nI_ltI (by omega) hm).mp z
      exact nI_nle (by omega) hm y
theorem rustC {E : sE} {S : qv_St} {n : Nat} (h : HC E S) (hv : vE E) (hn : n < 10000) : okk (fX0_isRustling S (nI (E.2.2.2 2 + n)) (nI (E.2.2.2 0 + n))) (fun z => z.2 = (if ruE E n = 0 then 0 else 1) ∧ HC E z.1 ∧ frC S z.1) := by
  unfold fX0_isRustling
  simp only [qj_e, qb_e]
  have hH := h
  obtain ⟨⟨a0, a1, a2, a3, a4, a5, a6, a7, a8, a9, a10, a11⟩, hR, hsd, hz, hq⟩ := h
  obtain ⟨⟨c1, c2, c3, c4, c5, c6, c7, c8, c9⟩, v2, v3⟩ := hv
  simp only [tc6, tc8, qs_si, qs_qs, qs_eq]
  refine ok_ck 6 rfl (by decide) (by decide) (ok_ck 8 rfl (by decide) (by decide) ?_)
  have hvar : ∀ j, j < 9 → upd (upd (S.1 257) 6 (nI (E.2.2.2 2 + n))) 8 (nI (E.2.2.2 0 + n)) j = vrR (E.2.2.2 2 + n) (E.2.2.2 0 + n) j := lt9 ⟨hz.2.2.1, hz.2.2.2.1, hz.2.2.2.2.1, hz.2.2.2.2.2.1, hz.2.2.2.2.2.2.1, hz.2.2.2.2.2.2.2.1, rfl, hz.2.2.2.2.2.2.2.2, rfl⟩
  have hlw := lawV_congr hvar (E.2.1 2) (v2 2 (by decide))
  refine ok_cm (answerC (brs := E.2.1 2) (cLaw_G (qs_ne (by decide)) (qs_ne (by decide)) a11) (v2 2 (by decide)) (by decide)) ?_
  rintro S7 r ⟨hr, P, hP⟩
  have hr : r = _ := hr
  have hP : S7 = _ := hP
  subst hP
  rw [qs_eq, hlw] at hr
  subst hr
  have g : ∀ q, q ≠ 257 → q ≠ 29 → (qs (qs S 257 (upd (upd (S.1 257) 6 (nI (E.2.2.2 2 + n))) 8 (nI (E.2.2.2 0 + n)))) (27 + 2) P).1 q = S.1 q := fun q x y => by rw [qs_ne y, qs_ne x]
  have hf : frC S (qs (qs S 257 (upd (upd (S.1 257) 6 (nI (E.2.2.2 2 + n))) 8 (nI (E.2.2.2 0 + n)))) (27 + 2) P) := frC_tr (frC_qs (by omega)) (frC_qs (by omega))
  have hfin : HC E (qs (qs S 257 (upd (upd (S.1 257) 6 (nI (E.2.2.2 2 + n))) 8 (nI (E.2.2.2 0 + n)))) (27 + 2) P) := by
    refine HC_fr hH hf ?_ ?_
    · unfold cZ
      rw [g 255 (by decide) (by decide), g 256 (by decide) (by decide), qs_ne (show (257 : Nat) ≠ 27 + 2 by decide), qs_eq]
      exact ⟨hz.1, hz.2.1, hz.2.2⟩
    · intro j hj hj2
      rw [g 258 (by decide) (by decide), g 259 (by decide) (by decide)]
      exact hq j hj hj2
  rw [lotC, Option.bind_some, g 254 (by decide) (by decide), hsd]
  have key := lotI_clp (sd := E.2.2.1) (w := 8 * nI (E.2.2.2 0 + n) + 4000000) (x := lawV (vrR (E.2.2.2 2 + n) (E.2.2.2 0 + n)) (E.2.1 2))
  unfold ruE
  refine ok_if (fun h1 => ok_s ⟨?_, hfin, hf⟩) (fun h1 => ok_if (fun h2 => ok_s ⟨?_, hfin, hf⟩) (fun h2 => ok_s ⟨?_, hfin, hf⟩))
  · rw [if_neg (fun z => (key.mpr z).1 h1)]; rfl
  · rw [if_neg (fun z => (key.mpr z).2 h2)]; rfl
  · rw [if_pos (key.mp ⟨h1, h2⟩)]; rfl
