/-! what a script tells and what goes on, as numbers: (D, laws, seed, row) -/
abbrev sE : Type := (Nat → Nat → Nat) × (Nat → List lwB) × Int32 × (Nat → Nat)
def vD (D : Nat → Nat → Nat) : Prop := D 9 0 ≤ 8 ∧ D 9 1 ≤ 4 ∧ D 9 2 ≤ 6 ∧ D 9 15 ≤ 99 ∧ D 9 16 ≤ 9999 ∧ D 9 17 ≤ 9999 ∧ (∀ k, k < D 9 0 → D 10 k ≤ 1 ∧ D 11 k ≤ 999 ∧ (D 10 k = 1 → 0 < D 12 k) ∧ D 12 k ≤ 999 ∧ 0 < D 13 k ∧ D 13 k ≤ 99 ∧ D 14 k ≤ 99 ∧ D 15 k ≤ 99) ∧ (∀ p, p < D 9 1 → D 16 p ≤ 9) ∧ (∀ s, s < D 9 2 → 0 < D 17 s ∧ D 17 s ≤ 9 ∧ D 18 s ≤ 99)
def vE (E : sE) : Prop := vD E.1 ∧ (∀ k, k < 3 → lwf (E.2.1 k)) ∧ (∀ k, k < 32 → E.2.2.2 k ≤ 1000000)
def cN (m x : Int32) : Nat := (clp m x).toNatClampNeg
theorem clp_eq {m x : Int32} {M : Nat} (hm : m = nI M) (hM : M < 2 ^ 31) : clp m x = nI (cN m x) ∧ cN m x ≤ M := by
  subst hm
  have h : ∃ j, j ≤ M ∧ clp (nI M) x = nI j := by
    unfold clp
    by_cases h1 : x < 0
    · exact ⟨0, Nat.zero_le _, by rw [if_pos h1]; rfl⟩
    · rw [if_neg h1]
      by_cases h2 : nI M < x
      · exact ⟨M, Nat.le_refl _, by rw [if_pos h2]⟩
      · rw [if_neg h2]
        obtain ⟨j, hj, rfl⟩ := nI_of h1
        exact ⟨j, Nat.le_of_not_lt (fun z => h2 (nI_lt z hj)), rfl⟩
  obtain ⟨j, hj, e⟩ := h
  unfold cN
  rw [e, nI_clamp (by omega)]
  exact ⟨rfl, hj⟩
theorem clp99 (x : Int32) : clp 99 x = nI (cN 99 x) := (clp_eq (M := 99) rfl (by decide)).1
theorem cN99 (x : Int32) : cN 99 x ≤ 99 := (clp_eq (M := 99) rfl (by decide)).2
theorem clp100 (x : Int32) : clp 100 x = nI (cN 100 x) := (clp_eq (M := 100) rfl (by decide)).1
theorem cN100 (x : Int32) : cN 100 x ≤ 100 := (clp_eq (M := 100) rfl (by decide)).2
theorem clp_mm (x : Int32) : qv_mx 0 (qv_mn 99 x) = clp 99 x := by
  unfold qv_mx qv_mn clp
  by_cases h1 : x < 0
  · rw [if_pos h1, if_pos (Int32.lt_trans h1 (by decide)), if_neg (fun z => Int32.lt_irrefl (Int32.lt_trans h1 z))]
  · rw [if_neg h1]
    by_cases h2 : 99 < x
    · rw [if_pos h2, if_neg (fun z => Int32.lt_irrefl (Int32.lt_trans h2 z)), if_pos (by decide)]
    · rw [if_neg h2]
      by_cases h3 : x < 99
      · rw [if_pos h3]
        by_cases h4 : 0 < x
        · rw [if_pos h4]
        · rw [if_neg h4]
          exact Int32.le_antisymm (Int32.not_lt.mp h1) (Int32.not_lt.mp h4)
      · rw [if_neg h3, if_pos (by decide)]
        exact Int32.le_antisymm (Int32.not_lt.mp h3) (Int32.not_lt.mp h2)
def vrH (D : Nat → Nat → Nat) (k p t a : Nat) : Nat → Int32 := fun j => if j = 0 then nI (D 14 k) else if j = 1 then nI a else if j = 2 then nI (D 13 k) else if j = 3 then nI (D 16 p) else if j = 7 then nI k else if j = 8 then nI t else 0
def vrB (D : Nat → Nat → Nat) (s k t : Nat) : Nat → Int32 := fun j => if j = 4 then nI (D 18 s) else if j = 5 then nI k else if j = 7 then nI s else if j = 8 then nI t else 0
def vrR (st t : Nat) : Nat → Int32 := fun j => if j = 6 then nI st else if j = 8 then nI t else 0
def agP (D : Nat → Nat → Nat) (sd : Int32) (pd k t : Nat) : Option Nat := if t < pd then none else ag (D 10 k == 1) (D 11 k) (D 12 k) (D 13 k) sd (nI (D 12 k)) k t
def hrA (D : Nat → Nat → Nat) (W : Nat → List lwB) (k p t : Nat) : Option Nat → Nat
  | none => 0
  | some a => cN 99 (lawV (vrH D k p t a) (W 0))
def hrP (D : Nat → Nat → Nat) (W : Nat → List lwB) (sd : Int32) (pd k p t : Nat) : Nat := hrA D W k p t (agP D sd pd k t)
def mxN (f : Nat → Nat) : Nat → Nat
  | 0 => 0
  | n + 1 => max (mxN f n) (f n)
def agE (E : sE) (k t : Nat) : Option Nat := agP E.1 E.2.2.1 (E.2.2.2 (4 + k)) k t
def hrE (E : sE) (k p t : Nat) : Nat := hrP E.1 E.2.1 E.2.2.1 (E.2.2.2 (4 + k)) k p t
def moE (E : sE) (p t : Nat) : Nat := mxN (fun k => hrE E k p t) (E.1 9 0)
def ruE (E : sE) (n : Nat) : Nat := if lotI E.2.2.1 (8 * nI (E.2.2.2 0 + n) + 4000000) < nI (cN 100 (lawV (vrR (E.2.2.2 2 + n) (E.2.2.2 0 + n)) (E.2.1 2))) then 50 else 0
def loE (E : sE) (p n : Nat) : Nat := max (moE E p (E.2.2.2 0 + n)) (ruE E n)
def beE (E : sE) (s k t : Nat) : Nat := cN 99 (lawV (vrB E.1 s k t) (E.2.1 1))
theorem hrA_le {D : Nat → Nat → Nat} {W : Nat → List lwB} {k p t : Nat} {o : Option Nat} : hrA D W k p t o ≤ 99 := by
  cases o with
  | none => exact Nat.zero_le _
  | some a => exact cN99 _
theorem hrE_le {E : sE} {k p t : Nat} : hrE E k p t ≤ 99 := hrA_le
theorem mxN_le {f : Nat → Nat} {m : Nat} : ∀ n, (∀ k, k < n → f k ≤ m) → mxN f n ≤ m
  | 0, _ => Nat.zero_le _
  | n + 1, h => Nat.max_le.mpr ⟨mxN_le n (fun k hk => h k (by omega)), h n (by omega)⟩
theorem le_mxN {f : Nat → Nat} : ∀ n k, k < n → f k ≤ mxN f n
  | n + 1, k, h => by
    by_cases e : k = n
    · subst e; exact Nat.le_max_right _ _
    · exact Nat.le_trans (le_mxN n k (by omega)) (Nat.le_max_left _ _)
theorem moE_le {E : sE} {p t : Nat} : moE E p t ≤ 99 := mxN_le _ (fun _ _ => hrE_le)
theorem ruE_le {E : sE} {n : Nat} : ruE E n ≤ 50 := by unfold ruE; split <;> omega
theorem loE_le {E : sE} {p n : Nat} : loE E p n ≤ 99 := Nat.max_le.mpr ⟨moE_le, Nat.le_trans ruE_le (by decide)⟩
theorem beE_le {E : sE} {s k t : Nat} : beE E s k t ≤ 99 := cN99 _
/-! a law looks at nine variables alone -/
theorem srun_congr {v w : Nat → Int32} (h : ∀ j, j < 9 → v j = w j) : ∀ (c : lwC) (st : List Int32), swf c st.length → srun v c st = srun w c st
  | [], _, _ => rfl
  | (k, x) :: t, st, hw => by
    rw [srun_c, srun_c]
    rcases hw with ⟨h1, h2, h3, h4⟩ | ⟨h1, ⟨j, hj, h2⟩, h3, h4⟩ | ⟨h1, h3, h4⟩
    · have h1 : k = 0 := h1
      subst h1
      rw [sop_0, sop_0, Option.bind_some, Option.bind_some]
      exact srun_congr h t (x :: st) h4
    · have h1 : k = 1 := h1
      have h2 : x = nI j := h2
      subst h1
      subst h2
      rw [sop_1, sop_1, Option.bind_some, Option.bind_some, qi_cl (by omega), h j hj]
      exact srun_congr h t (_ :: st) h4
    · match st, h3, h4 with
      | b :: a :: r, h3, h4 =>
        have h1 : k = 2 ∨ k = 3 ∨ k = 4 ∨ k = 5 := h1
        rcases h1 with rfl | rfl | rfl | rfl
        · rw [sop_2, sop_2, Option.bind_some, Option.bind_some]
          exact srun_congr h t (_ :: r) h4
        · rw [sop_3, sop_3, Option.bind_some, Option.bind_some]
          exact srun_congr h t (_ :: r) h4
        · rw [sop_4, sop_4, Option.bind_some, Option.bind_some]
          exact srun_congr h t (_ :: r) h4
        · rw [sop_5, sop_5]
          by_cases hb : b = 0
          · rw [if_pos hb]; rfl
          · rw [if_neg hb, Option.bind_some, Option.bind_some]
            exact srun_congr h t (_ :: r) h4
theorem tv_congr {v w : Nat → Int32} (h : ∀ j, j < 9 → v j = w j) {c : lwC} (hw : swf c 0) : tv v c = tv w c := by
  unfold tv
  rw [srun_congr h c [] hw]
theorem lawV_congr {v w : Nat → Int32} (h : ∀ j, j < 9 → v j = w j) : ∀ brs : List lwB, lwf brs → lawV v brs = lawV w brs
  | [], _ => rfl
  | (none, c3) :: t, hw => by rw [lawV, lawV, tv_congr h hw.1]
  | (some (c1, c2), c3) :: t, hw => by
    obtain ⟨w1, w2, w3, w4⟩ := hw
    rw [lawV, lawV, tv_congr h w1, tv_congr h w2, tv_congr h w3, lawV_congr h t w4]
theorem lt9 {P : Nat → Prop} (h : P 0 ∧ P 1 ∧ P 2 ∧ P 3 ∧ P 4 ∧ P 5 ∧ P 6 ∧ P 7 ∧ P 8) : ∀ j, j < 9 → P j := by
  intro j hj
  obtain ⟨h0, h1, h2, h3, h4, h5, h6, h7, h8⟩ := h
  rcases (by omega : j = 0 ∨ j = 1 ∨ j = 2 ∨ j = 3 ∨ j = 4 ∨ j = 5 ∨ j = 6 ∨ j = 7 ∨ j = 8) with rfl | rfl | rfl | rfl | rfl | rfl | rfl | rfl | rfl <;> assumption
theorem tc0 : Int32.toNatClampNeg 0 = 0 := by decide
theorem tc1 : Int32.toNatClampNeg 1 = 1 := by decide
theorem tc2 : Int32.toNatClampNeg 2 = 2 := by decide
theorem tc3 : Int32.toNatClampNeg 3 = 3 := by decide
theorem tc4 : Int32.toNatClampNeg 4 = 4 := by decide
theorem tc5 : Int32.toNatClampNeg 5 = 5 := by decide
theorem tc6 : Int32.toNatClampNeg 6 = 6 := by decide
theorem tc7 : Int32.toNatClampNeg 7 = 7 := by decide
theorem tc8 : Int32.toNatClampNeg 8 = 8 := by decide
theorem ck_c {ρ : Type} {i : Int32} {n : Nat} {o : Option ρ} (h : qv_in i n = true) : qv_ck i n o = o := by rw [qv_ck, if_pos h]
/-! the reference holds it -/
def mS (lv : Nat) (D : Nat → Nat → Nat) (W : Nat → List lwB) (G : Nat → Nat → Int32) : Prop := lv ≤ 1 ∧ G 0 18 = nI lv ∧ G 9 lv = nI (D 9 0) ∧ G 16 lv = nI (D 9 1) ∧ G 18 lv = nI (D 9 2) ∧ G 21 lv = nI (D 9 15) ∧ G 22 lv = nI (D 9 16) ∧ G 23 lv = nI (D 9 17) ∧ (∀ q, 10 ≤ q → q ≤ 15 → ∀ k, k < D 9 0 → G q (8 * lv + k) = nI (D q k)) ∧ (∀ p, p < D 9 1 → G 17 (4 * lv + p) = nI (D 16 p)) ∧ (∀ s, s < D 9 2 → G 19 (6 * lv + s) = nI (D 17 s) ∧ G 20 (6 * lv + s) = nI (D 18 s)) ∧ (∀ k, k < 3 → mLaw G (3 * lv + k) k (W k))
theorem codeAt_G {G G' : Nat → Nat → Int32} (h : ∀ q, 24 ≤ q → q ≤ 32 → G' q = G q) {a : Nat} {c : lwC} (hc : codeAt (G 31) (G 32) a c) : codeAt (G' 31) (G' 32) a c := by rw [h 31 (by decide) (by decide), h 32 (by decide) (by decide)]; exact hc
theorem brAt_G {G G' : Nat → Nat → Int32} (h : ∀ q, 24 ≤ q → q ≤ 32 → G' q = G q) {b : Nat} {br : lwB} (hb : brAt G b br) : brAt G' b br := by
  match br, hb with
  | (none, c3), hb =>
    obtain ⟨h1, x, h2, h3, h4, h5⟩ := hb
    exact ⟨by rw [h 26 (by decide) (by decide)]; exact h1, x, by rw [h 29 (by decide) (by decide)]; exact h2, by rw [h 30 (by decide) (by decide)]; exact h3, h4, codeAt_G h h5⟩
  | (some (c1, c2), c3), hb =>
    obtain ⟨h1, x, h2, h3, h4, h5, h6, h7, h8, h9⟩ := hb
    exact ⟨by rw [h 26 (by decide) (by decide)]; exact h1, x, by rw [h 27 (by decide) (by decide)]; exact h2, by rw [h 28 (by decide) (by decide)]; exact h3, by rw [h 29 (by decide) (by decide)]; exact h4, by rw [h 30 (by decide) (by decide)]; exact h5, h6, codeAt_G h h7, codeAt_G h h8, codeAt_G h h9⟩
theorem brsAt_G {G G' : Nat → Nat → Int32} (h : ∀ q, 24 ≤ q → q ≤ 32 → G' q = G q) : ∀ (brs : List lwB) (b : Nat), brsAt G b brs → brsAt G' b brs
  | [], _, _ => trivial
  | _ :: t, b, hb => ⟨brAt_G h hb.1, brsAt_G h t (b + 1) hb.2⟩
theorem mLaw_G {G G' : Nat → Nat → Int32} (h : ∀ q, 24 ≤ q → q ≤ 32 → G' q = G q) {a k : Nat} {brs : List lwB} (hb : mLaw G a k brs) : mLaw G' a k brs := by
  unfold mLaw
  rw [h 24 (by decide) (by decide), h 25 (by decide) (by decide)]
  rcases hb with hb | ⟨f, h1, h2, h3, h4, h5⟩
  · exact Or.inl hb
  · exact Or.inr ⟨f, h1, h2, h3, h4, brsAt_G h brs f h5⟩
theorem mS_G {lv : Nat} {D : Nat → Nat → Nat} {W : Nat → List lwB} {G G' : Nat → Nat → Int32} (h : ∀ q, 9 ≤ q → q ≤ 32 → G' q = G q) (h0 : G' 0 18 = G 0 18) (hm : mS lv D W G) : mS lv D W G' := by
  obtain ⟨a0, a1, a2, a3, a4, a5, a6, a7, a8, a9, a10, a11⟩ := hm
  refine ⟨a0, by rw [h0]; exact a1, by rw [h 9 (by decide) (by decide)]; exact a2, by rw [h 16 (by decide) (by decide)]; exact a3, by rw [h 18 (by decide) (by decide)]; exact a4, by rw [h 21 (by decide) (by decide)]; exact a5, by rw [h 22 (by decide) (by decide)]; exact a6, by rw [h 23 (by decide) (by decide)]; exact a7, fun q q1 q2 k hk => by rw [h q (by omega) (by omega)]; exact a8 q q1 q2 k hk, fun p hp => by rw [h 17 (by decide) (by decide)]; exact a9 p hp, fun s hs => by rw [h 19 (by decide) (by decide), h 20 (by decide) (by decide)]; exact a10 s hs, fun k hk => mLaw_G (fun q q1 q2 => h q (by omega) (by omega)) (a11 k hk)⟩
def frB (S S' : qv_St) : Prop := S'.2 = S.2 ∧ (∀ q, q ≠ 0 → q ≠ 34 → q ≠ 35 → S'.1 q = S.1 q) ∧ (∀ j, j ≠ 52 → S'.1 0 j = S.1 0 j)
theorem frB_rf {S : qv_St} : frB S S := ⟨rfl, fun _ _ _ _ => rfl, fun _ _ => rfl⟩
theorem frB_tr {S T U : qv_St} (h : frB S T) (h2 : frB T U) : frB S U := ⟨h2.1.trans h.1, fun q a b c => (h2.2.1 q a b c).trans (h.2.1 q a b c), fun j a => (h2.2.2 j a).trans (h.2.2 j a)⟩
theorem frB_A {S T : qv_St} (h : frA S T) : frB S T := ⟨h.1, fun q a _ c => h.2.1 q a c, h.2.2⟩
theorem frB_34 {S : qv_St} {f : Nat → Int32} : frB S (qs S 34 f) := ⟨rfl, fun q a b c => qs_ne b, fun j _ => by rw [qs_ne (by decide)]⟩
def HM (lv : Nat) (E : sE) (S : qv_St) : Prop := mS lv E.1 E.2.1 S.1 ∧ (∀ k, k < 32 → S.1 37 k = nI (E.2.2.2 k)) ∧ S.1 0 55 = E.2.2.1
theorem HM_fr {lv : Nat} {E : sE} {S T : qv_St} (h : HM lv E S) (f : frB S T) : HM lv E T :=
  ⟨mS_G (fun q q1 q2 => f.2.1 q (by omega) (by omega) (by omega)) (f.2.2 18 (by decide)) h.1, fun k hk => by rw [f.2.1 37 (by decide) (by decide) (by decide)]; exact h.2.1 k hk, by rw [f.2.2 55 (by decide)]; exact h.2.2⟩
def lkv (f : Nat → Int32) (x : Int32) : Nat → Int32 := fun j => if j < 8 then 0 else if j = 8 then x else f j
theorem looksM {S : qv_St} {x : Int32} : okk (fX12_looks S x) (fun z => z = qs S 34 (lkv (S.1 34) x)) := by
  unfold fX12_looks
  have hN5 := qN
  generalize qv_N = N at hN5 ⊢
  simp only [qj_e, qb_e]
  refine ok_lp2 (fun n T y => ∃ i, n = 8 - i ∧ i ≤ 8 ∧ y = nI i ∧ T = qs S 34 (fun j => if j < i then 0 else S.1 34 j)) ?_ N 8 S 0 ⟨0, rfl, by decide, rfl, by simp only [Nat.not_lt_zero, if_false]; exact qs_id.symm⟩ (by omega)
  rintro self n T y ⟨i, rfl, hi, rfl, rfl⟩ ih
  by_cases h : i = 8
  · subst h
    refine ok_pos (by decide) (ok_ck 8 rfl (by decide) (by decide) (ok_s ?_))
    rw [tc8, qs_si, qs_qs, qs_eq]
    congr 1
    funext j
    simp only [upd, lkv]
    by_cases h8 : j = 8
    · subst h8; rfl
    · simp only [h8, if_false]
  · refine ok_neg (show ¬ (8 : Int32) ≤ nI i from nI_ge (b := 8) (by omega) (by decide)) (ok_ck i rfl (by omega) (by decide) ?_)
    rw [qi_cl (by omega), nI_1, qs_si, qs_qs, qs_eq]
    refine ih (8 - (i + 1)) _ _ (by omega) ⟨i + 1, rfl, by omega, rfl, ?_⟩
    congr 1
    funext j
    simp only [upd]
    by_cases h8 : j = i
    · subst h8; rw [if_pos rfl, if_pos (by omega)]
    · rw [if_neg h8]
      by_cases h9 : j < i
      · rw [if_pos h9, if_pos (by omega)]
      · rw [if_neg h9, if_neg (by omega)]
theorem lwD_hear {v : Nat → Int32} : lawV v (lwD 0) = v 0 := rfl
theorem lwD_bears {v : Nat → Int32} : lawV v (lwD 1) = v 4 := rfl
theorem lwD_rust {v : Nat → Int32} : lawV v (lwD 2) = 0 := rfl
theorem clp_id {M n : Nat} (h : n ≤ M) (hM : M < 2 ^ 31) : clp (nI M) (nI n) = nI n := by
  unfold clp
  rw [if_neg (nI_pos (by omega)), if_neg (nI_nlt h (by omega))]
theorem ageNowM {lv : Nat} {E : sE} {S : qv_St} {k t : Nat} (h : HM lv E S) (hv : vE E) (hk : k < E.1 9 0) (ht : t < 10000000) : fX12_ageNow S (nI k) (nI t) = some (enc (-1) (agE E k t)) := by
  obtain ⟨⟨a0, a1, a2, a3, a4, a5, a6, a7, a8, a9, a10, a11⟩, b1, b2⟩ := h
  obtain ⟨⟨c1, c2, c3, c4, c5, c6, c7, c8, c9⟩, v2, v3⟩ := hv
  obtain ⟨d1, d2, d3, d4, d5, d6, d7, d8⟩ := c7 k hk
  unfold fX12_ageNow
  have e4 : 4 + nI k = nI (4 + k) := nI_add 4 k
  rw [e4, qi_ck (by omega) (by decide), qi_cl (by omega), b1 _ (by omega)]
  have hp := v3 (4 + k) (by omega)
  unfold agE agP
  by_cases h1 : t < E.2.2.2 (4 + k)
  · rw [if_neg (nI_ge h1 (by omega)), if_pos h1]
    rfl
  · rw [if_pos (nI_le (by omega) (by omega)), if_neg h1]
    have hc : S.1 10 (8 * lv + k) = if (E.1 10 k == 1) = true then 1 else 0 := by
      rw [a8 10 (by decide) (by decide) k hk]
      rcases (by omega : E.1 10 k = 0 ∨ E.1 10 k = 1) with e | e <;> rw [e] <;> rfl
    rw [ageM a1 a0 (by omega) hc (a8 11 (by decide) (by decide) k hk) (by omega) (e := E.1 12 k) (fun z => ⟨a8 12 (by decide) (by decide) k hk, d3 (by simpa using z), by omega⟩) (a8 13 (by decide) (by decide) k hk) (by omega) (by omega), Option.bind_some, b2, a8 12 (by decide) (by decide) k hk]
theorem heardByM {lv : Nat} {E : sE} {S : qv_St} {k p t : Nat} {o : Option Nat} (h : HM lv E S) (hv : vE E) (hk : k < E.1 9 0) (hp : p < E.1 9 1) (ho : ∀ a, o = some a → a < 100) : okk (fX12_heardBy S (nI k) (nI p) (nI t) (enc (-1) o)) (fun z => z.2 = nI (hrA E.1 E.2.1 k p t o) ∧ frB S z.1) := by
  unfold fX12_heardBy
  simp only [qj_e, qb_e]
  cases o with
  | none => exact ok_neg (by decide) (ok_s ⟨rfl, frB_rf⟩)
  | some a =>
    have ha := ho a rfl
    refine ok_pos (nI_pos' (by omega)) ?_
    refine ok_bd looksM ?_
    rintro T rfl
    obtain ⟨⟨a0, a1, a2, a3, a4, a5, a6, a7, a8, a9, a10, a11⟩, b1, b2⟩ := h
    obtain ⟨⟨c1, c2, c3, c4, c5, c6, c7, c8, c9⟩, v2, v3⟩ := hv
    obtain ⟨d1, d2, d3, d4, d5, d6, d7, d8⟩ := c7 k hk
    have hix : 8 * S.1 0 18 + nI k = nI (8 * lv + k) := by
      rw [a1, show (8 : Int32) = nI 8 from rfl, pk_mul, nI_add]
    have hix4 : 4 * S.1 0 18 + nI p = nI (4 * lv + p) := by
      rw [a1, show (4 : Int32) = nI 4 from rfl, pk_mul, nI_add]
    have s14 : ∀ f, (qs S 34 f).1 14 = S.1 14 := fun f => qs_ne (by decide)
    have s13 : ∀ f, (qs S 34 f).1 13 = S.1 13 := fun f => qs_ne (by decide)
    have s17 : ∀ f, (qs S 34 f).1 17 = S.1 17 := fun f => qs_ne (by decide)
    have s0 : ∀ f, (qs S 34 f).1 0 = S.1 0 := fun f => qs_ne (by decide)
    simp only [enc_s, tc0, tc1, tc2, tc3, tc7, qs_si, qs_qs, qs_eq, s14, s13, s17, s0, hix, hix4]
    have i1 : 8 * lv + k < 16 := by omega
    have i2 : 4 * lv + p < 8 := by omega
    simp only [qi_cl (show 8 * lv + k < 2 ^ 31 by omega), qi_cl (show 4 * lv + p < 2 ^ 31 by omega), a8 14 (by decide) (by decide) k hk, a8 13 (by decide) (by decide) k hk, a9 p hp]
    refine ok_ck _ rfl i1 (by omega) (ok_ck 0 rfl (by decide) (by decide) (ok_ck 1 rfl (by decide) (by decide) (ok_ck _ rfl i1 (by omega) (ok_ck 2 rfl (by decide) (by decide) (ok_ck _ rfl i2 (by omega) (ok_ck 3 rfl (by decide) (by decide) (ok_ck 7 rfl (by decide) (by decide) (ok_ck _ rfl i1 (by omega) ?_))))))))
    have hvar : ∀ f : Nat → Int32, ∀ j, j < 9 → upd (upd (upd (upd (upd (lkv f (nI t)) 0 (nI (E.1 14 k))) 1 (nI a)) 2 (nI (E.1 13 k))) 3 (nI (E.1 16 p))) 7 (nI k) j = vrH E.1 k p t a j := fun f => lt9 ⟨rfl, rfl, rfl, rfl, rfl, rfl, rfl, rfl, rfl⟩
    have hlw := lawV_congr (hvar (S.1 34)) (E.2.1 0) (v2 0 (by decide))
    have hp0 : E.2.1 0 = lwD 0 → nI (E.1 14 k) = clp 99 (lawV (vrH E.1 k p t a) (E.2.1 0)) := by
      intro z
      rw [z, lwD_hear]
      exact (clp_id (M := 99) d7 (by decide)).symm
    refine ok_cm (asksM (lv := lv) (k := 0) (brs := E.2.1 0) (by rw [s0]; exact a1) a0 (by decide) (mLaw_G (fun q q1 q2 => qs_ne (by omega)) (a11 0 (by decide))) (v2 0 (by decide)) (by decide) (fun z => by rw [qs_eq, hlw]; exact hp0 z)) ?_
    rintro S3 r ⟨hr, hf⟩
    have hr : r = _ := hr
    have hf : frA _ S3 := hf
    refine ok_s ⟨?_, frB_tr frB_34 (frB_A hf)⟩
    rw [qs_eq, hlw] at hr
    show r = nI (hrA E.1 E.2.1 k p t (some a))
    rw [hr, clp99]
    rfl
theorem heardM {lv : Nat} {E : sE} {S : qv_St} {k p t : Nat} (h : HM lv E S) (hv : vE E) (hk : k < E.1 9 0) (hp : p < E.1 9 1) (ht : t < 10000000) : okk (fX12_heardNow S (nI k) (nI p) (nI t)) (fun z => z.2 = nI (hrE E k p t) ∧ frB S z.1) := by
  unfold fX12_heardNow
  rw [ageNowM h hv hk ht, Option.bind_some]
  refine ok_cm (heardByM h hv hk hp (o := agE E k t) ?_) (fun S1 r hr => ok_s ⟨hr.1, hr.2⟩)
  intro a ha
  unfold agE agP at ha
  by_cases h1 : t < E.2.2.2 (4 + k)
  · rw [if_pos h1] at ha; cases ha
  · rw [if_neg h1] at ha
    have := ag_lt ha
    have := (hv.1.2.2.2.2.2.2.1 k hk).2.2.2.2.2.1
    omega
theorem mxI {a b : Nat} (ha : a < 2 ^ 31) (hb : b < 2 ^ 31) : (if nI a ≤ nI b then nI b else nI a) = nI (max b a) := by
  by_cases h : a ≤ b
  · rw [if_pos (nI_le h hb), Nat.max_eq_left h]
  · rw [if_neg (nI_ge (by omega) ha), Nat.max_eq_right (by omega)]
theorem mostM {lv : Nat} {E : sE} {S : qv_St} {p t : Nat} (h : HM lv E S) (hv : vE E) (hp : p < E.1 9 1) (ht : t < 10000000) : okk (fX12_mostHeard S (nI p) (nI t)) (fun z => z.2 = nI (moE E p t) ∧ frB S z.1) := by
  unfold fX12_mostHeard
  have hN5 := qN
  generalize qv_N = N at hN5 ⊢
  simp only [qj_e, qb_e]
  have hn := hv.1.1
  refine ok_lp3 (fun n T m y => ∃ i, n = E.1 9 0 - i ∧ i ≤ E.1 9 0 ∧ y = nI i ∧ m = nI (mxN (fun k => hrE E k p t) i) ∧ frB S T) ?_ N (E.1 9 0) S 0 0 ⟨0, rfl, by omega, rfl, rfl, frB_rf⟩ (by omega)
  rintro self n T m y ⟨i, rfl, hi, rfl, rfl, hf⟩ ih
  have hT := HM_fr h hf
  obtain ⟨a0, a1, a2, ax⟩ := hT.1
  refine ok_ck lv a1 (by omega) (by decide) ?_
  rw [a1, qi_cl (by omega), a2]
  have hm : mxN (fun k => hrE E k p t) i ≤ 99 := mxN_le _ (fun _ _ => hrE_le)
  by_cases h1 : i = E.1 9 0
  · subst h1
    exact ok_pos (Int32.le_refl _) (ok_s ⟨rfl, hf⟩)
  · refine ok_neg (nI_ge (by omega) (by omega)) ?_
    refine ok_cm (heardM hT hv (k := i) (by omega) hp ht) ?_
    rintro S2 r ⟨hr, hf2⟩
    have hr : r = nI (hrE E i p t) := hr
    subst hr
    have hf2 : frB T S2 := hf2
    have hh : hrE E i p t ≤ 99 := hrE_le
    rw [nI_1]
    have go : ∀ x, x = nI (mxN (fun k => hrE E k p t) (i + 1)) → okk (self S2 x (nI (i + 1))) (fun z => z.2 = nI (moE E p t) ∧ frB S z.1) := fun x hx => ih (E.1 9 0 - (i + 1)) _ _ _ (by omega) ⟨i + 1, rfl, by omega, rfl, hx, frB_tr hf hf2⟩
    refine ok_if (fun h2 => go _ ?_) (fun h2 => go _ ?_)
    · have h2 := (nI_leI (by omega) (by omega)).mp h2
      rw [mxN, Nat.max_eq_left h2]
    · have h2 : ¬ hrE E i p t ≤ _ := fun z => h2 (nI_le z (by omega))
      rw [mxN, Nat.max_eq_right (by omega)]
theorem rustM {lv : Nat} {E : sE} {S : qv_St} {n : Nat} (h : HM lv E S) (hv : vE E) (hn : n < 10000) : okk (fX12_rustling S (nI (E.2.2.2 0 + n))) (fun z => z.2 = nI (ruE E n) ∧ frB S z.1) := by
  unfold fX12_rustling
  simp only [qj_e, qb_e]
  refine ok_bd looksM ?_
  rintro T rfl
  obtain ⟨⟨a0, a1, a2, a3, a4, a5, a6, a7, a8, a9, a10, a11⟩, b1, b2⟩ := h
  obtain ⟨⟨c1, c2, c3, c4, c5, c6, c7, c8, c9⟩, v2, v3⟩ := hv
  have s37 : ∀ f, (qs S 34 f).1 37 = S.1 37 := fun f => qs_ne (by decide)
  have s0 : ∀ f, (qs S 34 f).1 0 = S.1 0 := fun f => qs_ne (by decide)
  simp only [tc0, tc2, tc6, qs_si, qs_qs, qs_eq, s37, b1 0 (by decide), b1 2 (by decide)]
  have e1 : nI (E.2.2.2 2) + nI (E.2.2.2 0 + n) - nI (E.2.2.2 0) = nI (E.2.2.2 2 + n) := by
    rw [nI_add, pk_sub (by omega)]
    congr 1
    omega
  rw [e1]
  refine ok_ck 2 rfl (by decide) (by decide) (ok_ck 0 rfl (by decide) (by decide) (ok_ck 6 rfl (by decide) (by decide) ?_))
  rw [lotM, Option.bind_some, s0, b2]
  have hvar : ∀ f : Nat → Int32, ∀ j, j < 9 → upd (lkv f (nI (E.2.2.2 0 + n))) 6 (nI (E.2.2.2 2 + n)) j = vrR (E.2.2.2 2 + n) (E.2.2.2 0 + n) j := fun f => lt9 ⟨rfl, rfl, rfl, rfl, rfl, rfl, rfl, rfl, rfl⟩
  have hlw := lawV_congr (hvar (S.1 34)) (E.2.1 2) (v2 2 (by decide))
  refine ok_cm (asksM (lv := lv) (k := 2) (brs := E.2.1 2) (by rw [s0]; exact a1) a0 (by decide) (mLaw_G (fun q q1 q2 => qs_ne (by omega)) (a11 2 (by decide))) (v2 2 (by decide)) (by decide) (fun z => by rw [z]; rfl)) ?_
  rintro S3 r ⟨hr, hf⟩
  have hr : r = _ := hr
  have hf : frA _ S3 := hf
  have hfr : frB S S3 := frB_tr frB_34 (frB_A hf)
  rw [qs_eq, hlw, clp100] at hr
  subst hr
  unfold ruE
  refine ok_if (fun h1 => ok_s ⟨?_, hfr⟩) (fun h1 => ok_s ⟨?_, hfr⟩)
  · rw [if_neg (Int32.not_lt.mpr h1)]; rfl
  · rw [if_pos (Int32.not_le.mp h1)]; rfl
theorem loudM {lv : Nat} {E : sE} {S : qv_St} {p n : Nat} (h : HM lv E S) (hv : vE E) (hp : p < E.1 9 1) (hn : n < 10000) : okk (fX12_loudIn S (nI p) (nI (E.2.2.2 0 + n))) (fun z => z.2 = nI (loE E p n) ∧ frB S z.1) := by
  have hv0 := hv.2.2 0 (by decide)
  unfold fX12_loudIn
  refine ok_cm (mostM h hv hp (by omega)) ?_
  rintro S1 r ⟨hr, hf⟩
  have hr : r = nI (moE E p (E.2.2.2 0 + n)) := hr
  have hf : frB S S1 := hf
  subst hr
  refine ok_cm (rustM (HM_fr h hf) hv hn) ?_
  rintro S2 r ⟨hr, hf2⟩
  have hr : r = nI (ruE E n) := hr
  have hf2 : frB S1 S2 := hf2
  subst hr
  have m1 : moE E p (E.2.2.2 0 + n) ≤ 99 := moE_le
  have m2 : ruE E n ≤ 50 := ruE_le
  unfold loE
  refine ok_if (fun h1 => ok_s ⟨?_, frB_tr hf hf2⟩) (fun h1 => ok_s ⟨?_, frB_tr hf hf2⟩)
  · have h1 := (nI_leI (by omega) (by omega)).mp h1
    rw [Nat.max_eq_right h1]
  · have h1 : ¬ moE E p (E.2.2.2 0 + n) ≤ ruE E n := fun z => h1 (nI_le z (by omega))
    rw [Nat.max_eq_left (by omega)]
theorem bearsM {lv : Nat} {E : sE} {S : qv_St} {s k t : Nat} (h : HM lv E S) (hv : vE E) (hs : s < E.1 9 2) : okk (fX12_bearsIn S (nI s) (nI k) (nI t)) (fun z => z.2 = nI (beE E s k t) ∧ frB S z.1) := by
  unfold fX12_bearsIn
  simp only [qj_e, qb_e]
  refine ok_bd looksM ?_
  rintro T rfl
  obtain ⟨⟨a0, a1, a2, a3, a4, a5, a6, a7, a8, a9, a10, a11⟩, b1, b2⟩ := h
  obtain ⟨⟨c1, c2, c3, c4, c5, c6, c7, c8, c9⟩, v2, v3⟩ := hv
  have hix : 6 * S.1 0 18 + nI s = nI (6 * lv + s) := by
    rw [a1, show (6 : Int32) = nI 6 from rfl, pk_mul, nI_add]
  have i1 : 6 * lv + s < 12 := by omega
  have s20 : ∀ f, (qs S 34 f).1 20 = S.1 20 := fun f => qs_ne (by decide)
  have s0 : ∀ f, (qs S 34 f).1 0 = S.1 0 := fun f => qs_ne (by decide)
  simp only [tc4, tc5, tc7, qs_si, qs_qs, qs_eq, s20, s0, hix, qi_cl (show 6 * lv + s < 2 ^ 31 by omega), (a10 s hs).2]
  refine ok_ck _ rfl i1 (by omega) (ok_ck 4 rfl (by decide) (by decide) (ok_ck 5 rfl (by decide) (by decide) (ok_ck 7 rfl (by decide) (by decide) (ok_ck _ rfl i1 (by omega) ?_))))
  have hvar : ∀ f : Nat → Int32, ∀ j, j < 9 → upd (upd (upd (lkv f (nI t)) 4 (nI (E.1 18 s))) 5 (nI k)) 7 (nI s) j = vrB E.1 s k t j := fun f => lt9 ⟨rfl, rfl, rfl, rfl, rfl, rfl, rfl, rfl, rfl⟩
  have hlw := lawV_congr (hvar (S.1 34)) (E.2.1 1) (v2 1 (by decide))
  have hp0 : E.2.1 1 = lwD 1 → nI (E.1 18 s) = clp 99 (lawV (vrB E.1 s k t) (E.2.1 1)) := by
    intro z
    rw [z, lwD_bears]
    exact (clp_id (M := 99) (c9 s hs).2.2 (by decide)).symm
  refine ok_cm (asksM (lv := lv) (k := 1) (brs := E.2.1 1) (by rw [s0]; exact a1) a0 (by decide) (mLaw_G (fun q q1 q2 => qs_ne (by omega)) (a11 1 (by decide))) (v2 1 (by decide)) (by decide) (fun z => by rw [qs_eq, hlw]; exact hp0 z)) ?_
  rintro S3 r ⟨hr, hf⟩
  have hr : r = _ := hr
  have hf : frA _ S3 := hf
  refine ok_s ⟨?_, frB_tr frB_34 (frB_A hf)⟩
  rw [qs_eq, hlw, clp99] at hr
  exact hr
