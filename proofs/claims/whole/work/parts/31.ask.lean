/-! the reference: loudBy, clear seconds; copies; questions on both sides -/
def frL (S S' : qv_St) : Prop := S'.2 = S.2 ∧ (∀ q, q ≠ 0 → q ≠ 34 → q ≠ 35 → q ≠ 38 → S'.1 q = S.1 q) ∧ (∀ j, j ≠ 52 → S'.1 0 j = S.1 0 j)
theorem frL_rf {S : qv_St} : frL S S := ⟨rfl, fun _ _ _ _ _ => rfl, fun _ _ => rfl⟩
theorem frL_tr {S T U : qv_St} (h : frL S T) (h2 : frL T U) : frL S U := ⟨h2.1.trans h.1, fun q a b c d => (h2.2.1 q a b c d).trans (h.2.1 q a b c d), fun j a => (h2.2.2 j a).trans (h.2.2 j a)⟩
theorem frL_B {S T : qv_St} (h : frB S T) : frL S T := ⟨h.1, fun q a b c _ => h.2.1 q a b c, h.2.2⟩
theorem frL_38 {S : qv_St} {f : Nat → Int32} : frL S (qs S 38 f) := ⟨rfl, fun q a b c d => qs_ne d, fun j _ => by rw [qs_ne (by decide)]⟩
theorem HM_frL {lv : Nat} {E : sE} {S T : qv_St} (h : HM lv E S) (f : frL S T) : HM lv E T :=
  ⟨mS_G (fun q q1 q2 => f.2.1 q (by omega) (by omega) (by omega) (by omega)) (f.2.2 18 (by decide)) h.1, fun k hk => by rw [f.2.1 37 (by decide) (by decide) (by decide) (by decide)]; exact h.2.1 k hk, by rw [f.2.2 55 (by decide)]; exact h.2.2⟩
theorem fillsM {lv : Nat} {E : sE} {S : qv_St} {p m : Nat} (h : HM lv E S) (hv : vE E) (hp : p < E.1 9 1) (hm : m ≤ 1620) : okk (fX12_fillsLoud S (nI p) (nI m)) (fun z => (∀ n, n < m → z.1 38 n = nI (loE E p n)) ∧ frL S z) := by
  unfold fX12_fillsLoud
  have hN5 := qN
  generalize qv_N = N at hN5 ⊢
  simp only [qb_e]
  refine ok_lp2 (fun k T x => ∃ i, k = m - i ∧ i ≤ m ∧ x = nI i ∧ (∀ n, n < i → T.1 38 n = nI (loE E p n)) ∧ frL S T) ?_ N m S 0 ⟨0, rfl, by omega, rfl, fun n hn => by omega, frL_rf⟩ (by omega)
  rintro self k T x ⟨i, rfl, hi, rfl, hl, hf⟩ ih
  by_cases h1 : i = m
  · subst h1
    exact ok_pos (Int32.le_refl _) (ok_s ⟨hl, hf⟩)
  · have hT := HM_frL h hf
    refine ok_neg (nI_ge (by omega) (by omega)) (ok_ck 0 rfl (by decide) (by decide) ?_)
    rw [tc0, hT.2.1 0 (by decide), nI_add, nI_1, qi_cl (by omega)]
    refine ok_cm (loudM hT hv hp (n := i) (by omega)) ?_
    rintro S2 r ⟨hr, hf2⟩
    have hr : r = _ := hr
    have hf2 : frB T S2 := hf2
    subst hr
    refine ok_ck i rfl (by omega) (by decide) ?_
    refine ih (m - (i + 1)) _ _ (by omega) ⟨i + 1, rfl, by omega, rfl, fun n hn => ?_, frL_tr hf (frL_tr (frL_B hf2) frL_38)⟩
    rw [qs_si, qs_eq]
    by_cases e : n = i
    · subst e; rw [upd_eq]
    · rw [upd_ne e, hf2.2.1 38 (by decide) (by decide) (by decide)]
      exact hl n (by omega)
theorem longM {lv : Nat} {E : sE} {S : qv_St} {s : Nat} (h : mS lv E.1 E.2.1 S.1) (hv : vE E) (hs : s < E.1 9 2) : fX12_longFor S (nI s) = some (nI (E.1 17 s)) := by
  obtain ⟨a0, a1, a2, a3, a4, a5, a6, a7, a8, a9, a10, a11⟩ := h
  have h6 := hv.1.2.2.1
  have hix : 6 * S.1 0 18 + nI s = nI (6 * lv + s) := by
    rw [a1, show (6 : Int32) = nI 6 from rfl, pk_mul, nI_add]
  unfold fX12_longFor
  rw [hix, qi_ck (by omega) (by decide), qi_cl (by omega), (a10 s hs).1]
theorem clearM {lv : Nat} {E : sE} {S : qv_St} {p s n : Nat} (h : HM lv E S) (hv : vE E) (hs : s < E.1 9 2) (hn : n + 9 ≤ 1620) (hl : ∀ k, k < E.1 17 s → S.1 38 (n + k) = nI (loE E p (n + k))) : okk (fX12_clearFrom S (nI s) (nI n)) (fun z => z.2 = nI (bt (clE E p s n) (E.1 17 s)) ∧ frB S z.1) := by
  unfold fX12_clearFrom
  have hN5 := qN
  generalize qv_N = N at hN5 ⊢
  simp only [qj_e, qb_e]
  have hL := (hv.1.2.2.2.2.2.2.2.2 s hs)
  refine ok_lp3 (fun m T x3 x4 => ∃ i, m = E.1 17 s - i ∧ i ≤ E.1 17 s ∧ x4 = nI i ∧ x3 = nI (bt (clE E p s n) i) ∧ frB S T) ?_ N (E.1 17 s) S 0 0 ⟨0, rfl, by omega, rfl, rfl, frB_rf⟩ (by omega)
  rintro self m T x3 x4 ⟨i, rfl, hi, rfl, rfl, hf⟩ ih
  have hT := HM_fr h hf
  rw [longM hT.1 hv hs, Option.bind_some]
  by_cases hi2 : i = E.1 17 s
  · subst hi2
    exact ok_pos (Int32.le_refl _) (ok_s ⟨rfl, hf⟩)
  · refine ok_neg (nI_ge (by omega) (by omega)) ?_
    rw [nI_add, nI_1, tc0, hT.2.1 0 (by decide), nI_add, nI_add, qi_cl (by omega), hf.2.1 38 (by decide) (by decide) (by decide), hl i (by omega), Nat.add_assoc]
    refine ok_ck (n + i) rfl (by omega) (by decide) (ok_ck 0 rfl (by decide) (by decide) ?_)
    refine ok_cm (bearsM hT hv hs) ?_
    rintro S2 r ⟨hr, hf2⟩
    have hr : r = _ := hr
    have hf2 : frB T S2 := hf2
    subst hr
    have hlo : loE E p (n + i) ≤ 99 := loE_le
    have hbe : beE E s i (E.2.2.2 0 + (n + i)) ≤ 99 := beE_le
    have hlt := bt_lt (P := clE E p s n) i
    refine ok_if (fun g => ?_) (fun g => ?_)
    · have g := (nI_ltI (by omega) (by omega)).mp g
      refine ih (E.1 17 s - (i + 1)) _ _ _ (by omega) ⟨i + 1, rfl, by omega, rfl, ?_, frB_tr hf hf2⟩
      rw [bt, if_neg, Nat.add_zero]
      unfold clE
      rw [decide_eq_false (by omega)]
      decide
    · have g : ¬ beE E s i (E.2.2.2 0 + (n + i)) < loE E p (n + i) := fun z => g (nI_lt z (by omega))
      rw [or_bit (by omega) hlt]
      refine ih (E.1 17 s - (i + 1)) _ _ _ (by omega) ⟨i + 1, rfl, by omega, rfl, ?_, frB_tr hf hf2⟩
      rw [bt, if_pos]
      unfold clE
      exact decide_eq_true (by omega)
theorem wholeM {lv : Nat} {E : sE} {S : qv_St} {s b : Nat} (h : mS lv E.1 E.2.1 S.1) (hv : vE E) (hs : s < E.1 9 2) (hb : b < 2 ^ 31) : fX12_isWhole S (nI s) (nI b) = some (if b = 2 ^ (E.1 17 s) - 1 then 1 else 0) := by
  have hL := (hv.1.2.2.2.2.2.2.2.2 s hs)
  have h9 : 2 ^ (E.1 17 s) ≤ 2 ^ 9 := Nat.pow_le_pow_right (by decide) hL.2.1
  unfold fX12_isWhole
  rw [longM h hv hs, Option.bind_some, sh1m _ (by omega)]
  by_cases g : b = 2 ^ (E.1 17 s) - 1
  · rw [if_pos (by rw [g]), if_pos g]
  · rw [if_neg (fun z => g ((nI_eq hb (by omega)).mp z)), if_neg g]
theorem goodM {lv : Nat} {E : sE} {S : qv_St} {p s n : Nat} (h : HM lv E S) (hv : vE E) (hs : s < E.1 9 2) (hn : n + 9 ≤ 1620) (hl : ∀ k, k < E.1 17 s → S.1 38 (n + k) = nI (loE E p (n + k))) : okk (fX12_isGood S (nI s) (nI n)) (fun z => z.2 = (if goE E p s n = true then 1 else 0) ∧ frB S z.1) := by
  have hL := (hv.1.2.2.2.2.2.2.2.2 s hs)
  have h9 : 2 ^ (E.1 17 s) ≤ 2 ^ 9 := Nat.pow_le_pow_right (by decide) hL.2.1
  unfold fX12_isGood
  refine ok_cm (clearM h hv hs hn hl) ?_
  rintro S1 r ⟨hr, hf⟩
  have hr : r = _ := hr
  have hf : frB S S1 := hf
  subst hr
  have hlt := bt_lt (P := clE E p s n) (E.1 17 s)
  rw [wholeM (HM_fr h hf).1 hv hs (by omega), Option.bind_some]
  unfold goE
  by_cases g : bt (clE E p s n) (E.1 17 s) = 2 ^ (E.1 17 s) - 1
  · rw [if_pos g]
    exact ⟨_, rfl, by rw [if_pos (by rw [beq_iff_eq]; exact g)], hf⟩
  · rw [if_neg g]
    exact ⟨_, rfl, by rw [if_neg (by rw [beq_iff_eq]; exact g)], hf⟩
/-! a question: what it may change on either side -/
def frQ (S S' : qv_St) : Prop := S'.2 = S.2 ∧ (∀ q, q ≠ 0 → q ≠ 34 → q ≠ 35 → q ≠ 37 → q ≠ 38 → q ≠ 40 → q ≠ 41 → q ≠ 42 → S'.1 q = S.1 q) ∧ (∀ j, j ≠ 52 → j ≠ 55 → j ≠ 60 → j ≠ 62 → j ≠ 63 → S'.1 0 j = S.1 0 j)
theorem frQ_rf {S : qv_St} : frQ S S := ⟨rfl, fun _ _ _ _ _ _ _ _ _ => rfl, fun _ _ _ _ _ _ => rfl⟩
theorem frQ_tr {S T U : qv_St} (h : frQ S T) (h2 : frQ T U) : frQ S U := ⟨h2.1.trans h.1, fun q a b c d e f g i => (h2.2.1 q a b c d e f g i).trans (h.2.1 q a b c d e f g i), fun j a b c d e => (h2.2.2 j a b c d e).trans (h.2.2 j a b c d e)⟩
theorem frQ_L {S T : qv_St} (h : frL S T) : frQ S T := ⟨h.1, fun q a b c _ e _ _ _ => h.2.1 q a b c e, fun j a _ _ _ _ => h.2.2 j a⟩
theorem frQ_B {S T : qv_St} (h : frB S T) : frQ S T := frQ_L (frL_B h)
def frE (S S' : qv_St) : Prop := S'.2 = S.2 ∧ (∀ q, q ≠ 21 → q ≠ 25 → q ≠ 29 → (q < 254 ∨ 267 < q) → S'.1 q = S.1 q)
theorem frE_rf {S : qv_St} : frE S S := ⟨rfl, fun _ _ _ _ _ => rfl⟩
theorem frE_tr {S T U : qv_St} (h : frE S T) (h2 : frE T U) : frE S U := ⟨h2.1.trans h.1, fun q a b c d => (h2.2 q a b c d).trans (h.2 q a b c d)⟩
theorem frE_C {S T : qv_St} (h : frC S T) : frE S T := ⟨h.1, fun q a b c d => h.2 q a b c (by omega)⟩
theorem frE_D {S T : qv_St} (h : frD S T) : frE S T := ⟨h.1, fun q a b c d => h.2 q a b c (by omega)⟩
def qC (E : sE) (S : qv_St) : Prop := vE E ∧ HC E S ∧ (S.1 260 5 = -1 ∨ ∃ p, svP E p S)
def qM (lv : Nat) (E : sE) (S : qv_St) : Prop := vE E ∧ mS lv E.1 E.2.1 S.1 ∧ (∀ k, k < 32 → S.1 36 k = nI (E.2.2.2 k)) ∧ E.2.2.1 = nI (E.1 9 17)
theorem qC_SV {E : sE} {p : Nat} {S : qv_St} (h : SV E p S) : qC E S := ⟨h.1, h.2.1, Or.inr ⟨p, h.2.2⟩⟩
theorem qC_fr {E : sE} {S T : qv_St} (h : qC E S) (hc : HC E T) (f : frC S T) : qC E T := by
  refine ⟨h.1, hc, ?_⟩
  rw [f.2 260 (by decide) (by decide) (by decide) (by decide)]
  rcases h.2.2 with g | ⟨p, g⟩
  · exact Or.inl g
  · exact Or.inr ⟨p, (SV_fr ⟨h.1, h.2.1, g⟩ hc f).2.2⟩
theorem qM_fr {lv : Nat} {E : sE} {S T : qv_St} (h : qM lv E S) (f : frQ S T) : qM lv E T :=
  ⟨h.1, mS_G (fun q q1 q2 => f.2.1 q (by omega) (by omega) (by omega) (by omega) (by omega) (by omega) (by omega) (by omega)) (f.2.2 18 (by decide) (by decide) (by decide) (by decide) (by decide)) h.2.1, fun k hk => by rw [f.2.1 36 (by decide) (by decide) (by decide) (by decide) (by decide) (by decide) (by decide) (by decide)]; exact h.2.2.1 k hk, h.2.2.2⟩
theorem faceQ {E : sE} {S : qv_St} {p : Nat} (h : qC E S) (hp : p < E.1 9 1) : okk (fX7_face S (nI p)) (fun z => SV E p z ∧ frE S z) := by
  have hp4 := h.1.1.2.1
  refine ok_mono (faceC h.1 h.2.1 hp (fun g => ?_)) (fun z hz => ⟨hz.1, hz.2.1, fun q a b c d => ?_⟩)
  · rcases h.2.2 with g2 | ⟨p2, g2⟩
    · rw [g2] at g
      exact absurd (g ▸ nI_pos (n := p) (by omega)) (by decide)
    · have : p2 = p := (nI_eq (by have := g2.2.1; omega) (by omega)).mp (g2.1.symm.trans g)
      subst this
      exact ⟨h.1, h.2.1, g2⟩
  · rcases d with d | d
    · exact hz.2.2.1 q (by omega)
    · exact hz.2.2.2.1 q (by omega)
theorem copiesM {lv : Nat} {E : sE} {S : qv_St} (h : qM lv E S) : okk (fX12_copies S) (fun z => HM lv E z ∧ z.2 = S.2 ∧ (∀ q, q ≠ 0 → q ≠ 37 → z.1 q = S.1 q) ∧ (∀ j, j ≠ 55 → z.1 0 j = S.1 0 j)) := by
  obtain ⟨hv, hm, hr, hs⟩ := h
  unfold fX12_copies
  have hN5 := qN
  generalize qv_N = N at hN5 ⊢
  simp only [qj_e, qb_e]
  refine ok_lp2 (fun n T y => ∃ i, n = 32 - i ∧ i ≤ 32 ∧ y = nI i ∧ T = qs S 37 (fun j => if j < i then S.1 36 j else S.1 37 j)) ?_ N 32 S 0 ⟨0, rfl, by decide, rfl, by simp only [Nat.not_lt_zero, if_false]; exact qs_id.symm⟩ (by omega)
  rintro self n T y ⟨i, rfl, hi, rfl, rfl⟩ ih
  by_cases h1 : i = 32
  · subst h1
    have e18 : ∀ f, (qs S 37 f).1 0 = S.1 0 := fun f => qs_ne (by decide)
    have e23 : ∀ f, (qs S 37 f).1 23 = S.1 23 := fun f => qs_ne (by decide)
    refine ok_pos (by decide) ?_
    obtain ⟨a0, a1, a2, a3, a4, a5, a6, a7, ax⟩ := hm
    rw [e18, e23, a1, qi_cl (by omega), a7]
    refine ok_ck lv rfl (by omega) (by decide) (ok_s ?_)
    rw [qs_si, e18]
    refine ⟨⟨mS_G (fun q q1 q2 => by rw [qs_ne (by omega), qs_ne (by omega)]) ?_ ⟨a0, a1, a2, a3, a4, a5, a6, a7, ax⟩, fun k hk => ?_, ?_⟩, rfl, fun q q1 q2 => ?_, fun j hj => ?_⟩
    · rw [qs_eq, upd_ne (by decide)]
    · rw [qs_ne (by decide), qs_eq, if_pos hk]; exact hr k hk
    · rw [qs_eq, upd_eq, hs]
    · rw [qs_ne q1, qs_ne q2]
    · rw [qs_eq, upd_ne hj]
  · refine ok_neg (show ¬ (32 : Int32) ≤ nI i from nI_ge (b := 32) (by omega) (by decide)) (ok_ck i rfl (by omega) (by decide) (ok_ck i rfl (by omega) (by decide) ?_))
    rw [qi_cl (by omega), nI_1, qs_si, qs_qs, qs_eq, qs_ne (by decide)]
    refine ih (32 - (i + 1)) _ _ (by omega) ⟨i + 1, rfl, by omega, rfl, ?_⟩
    congr 1
    funext j
    simp only [upd]
    by_cases h8 : j = i
    · subst h8; rw [if_pos rfl, if_pos (by omega)]
    · rw [if_neg h8]
      by_cases h9 : j < i
      · rw [if_pos h9, if_pos (by omega)]
      · rw [if_neg h9, if_neg (by omega)]
theorem copiesQ {lv : Nat} {E : sE} {S : qv_St} (h : qM lv E S) : okk (fX12_copies S) (fun z => HM lv E z ∧ frQ S z) :=
  ok_mono (copiesM h) (fun z hz => ⟨hz.1, hz.2.1, fun q a _ _ d _ _ _ _ => hz.2.2.1 q a d, fun j _ b _ _ _ => hz.2.2.2 j b⟩)
/-! arguments -/
def wI (x lo hi : Int32) : Int32 := if x < lo then 0 else if hi < x then 0 else 1
theorem withinC {x lo hi : Int32} : fX11_within x lo hi = some (wI x lo hi) := by
  unfold fX11_within wI
  simp only [qj_e]
  split
  · rfl
  · split <;> rfl
theorem inM {x lo hi : Int32} : fX12_in x lo hi = some (wI x lo hi) := by
  unfold fX12_in wI
  simp only [qj_e]
  split
  · rfl
  · split <;> rfl
theorem wI_01 {x lo hi : Int32} {ρ : Type} {o : Option ρ} : qv_rz (wI x lo hi) o = o := by
  unfold qv_rz
  rw [if_pos]
  unfold wI
  split
  · exact Or.inl rfl
  · split
    · exact Or.inl rfl
    · exact Or.inr rfl
theorem isNoiseC {S : qv_St} {x : Int32} : fX11_isNoise S x = some (wI x 0 (S.1 9 0 - 1)) := by rw [fX11_isNoise, withinC, Option.bind_some, wI_01]
theorem isPlaceC {S : qv_St} {x : Int32} : fX11_isPlace S x = some (wI x 0 (S.1 9 1 - 1)) := by rw [fX11_isPlace, withinC, Option.bind_some, wI_01]
theorem isShotC {S : qv_St} {x : Int32} : fX11_isShot S x = some (wI x 0 (S.1 9 2 - 1)) := by rw [fX11_isShot, withinC, Option.bind_some, wI_01]
theorem isNoiseM {S : qv_St} {x : Int32} {lv : Nat} (h : S.1 0 18 = nI lv) (hl : lv ≤ 1) : fX12_isNoise S x = some (wI x 0 (S.1 9 lv - 1)) := by rw [fX12_isNoise, h, qi_ck (by omega) (by decide), qi_cl (by omega), inM, Option.bind_some, wI_01]
theorem isPlaceM {S : qv_St} {x : Int32} {lv : Nat} (h : S.1 0 18 = nI lv) (hl : lv ≤ 1) : fX12_isPlace S x = some (wI x 0 (S.1 16 lv - 1)) := by rw [fX12_isPlace, h, qi_ck (by omega) (by decide), qi_cl (by omega), inM, Option.bind_some, wI_01]
theorem isShotM {S : qv_St} {x : Int32} {lv : Nat} (h : S.1 0 18 = nI lv) (hl : lv ≤ 1) : fX12_isShot S x = some (wI x 0 (S.1 18 lv - 1)) := by rw [fX12_isShot, h, qi_ck (by omega) (by decide), qi_cl (by omega), inM, Option.bind_some, wI_01]
theorem wI_n (x : Int32) {n : Nat} (hn : n < 2 ^ 30) : wI x 0 (nI n - 1) = 0 ∨ ∃ k, k < n ∧ x = nI k ∧ wI x 0 (nI n - 1) = 1 := by
  unfold wI
  by_cases h1 : x < 0
  · rw [if_pos h1]; exact Or.inl rfl
  · rw [if_neg h1]
    obtain ⟨k, hk, rfl⟩ := nI_of h1
    by_cases h2 : nI n - 1 < nI k
    · rw [if_pos h2]; exact Or.inl rfl
    · rw [if_neg h2]
      refine Or.inr ⟨k, ?_, rfl, rfl⟩
      rw [Int32.lt_iff_toInt_lt, show (1 : Int32) = nI 1 from rfl, pk_sub_toInt (by omega) (by omega), nI_toInt (by omega)] at h2
      omega
theorem wI_r (x : Int32) {a b : Nat} {lo hi : Int32} (hlo : lo = nI a) (hhi : hi = nI b) (hb : b < 2 ^ 30) (ha : a ≤ b) : wI x lo hi = 0 ∨ ∃ k, a ≤ k ∧ k ≤ b ∧ x = nI k ∧ wI x lo hi = 1 := by
  subst hlo
  subst hhi
  unfold wI
  by_cases h1 : x < nI a
  · rw [if_pos h1]; exact Or.inl rfl
  · rw [if_neg h1]
    have h0 : ¬ x < 0 := fun z => h1 (Int32.lt_of_lt_of_le z (nI_pos' (by omega)))
    obtain ⟨k, hk, rfl⟩ := nI_of h0
    by_cases h2 : nI b < nI k
    · rw [if_pos h2]; exact Or.inl rfl
    · rw [if_neg h2]
      exact Or.inr ⟨k, Nat.le_of_not_lt (fun z => h1 (nI_lt z (by omega))), Nat.le_of_not_lt (fun z => h2 (nI_lt z hk)), rfl, rfl⟩
/-! a question asked on both sides -/
def ask2 (E : sE) (S1 S2 : qv_St) (o1 o2 : Option (qv_St × Int32)) : Prop := ∃ (S1' : qv_St) (S2' : qv_St) (r : Int32), o1 = some (S1', r) ∧ o2 = some (S2', r) ∧ qC E S1' ∧ frE S1 S1' ∧ frQ S2 S2'
theorem ask2_mk {E : sE} {S1 S2 : qv_St} {o1 o2 : Option (qv_St × Int32)} (v : Int32) (h1 : okk o1 (fun z => z.2 = v ∧ qC E z.1 ∧ frE S1 z.1)) (h2 : okk o2 (fun z => z.2 = v ∧ frQ S2 z.1)) : ask2 E S1 S2 o1 o2 := by
  obtain ⟨⟨T1, r1⟩, e1, f1, g1, k1⟩ := h1
  obtain ⟨⟨T2, r2⟩, e2, f2, g2⟩ := h2
  have f1 : r1 = v := f1
  have f2 : r2 = v := f2
  subst f1
  subst f2
  exact ⟨T1, T2, r2, e1, e2, g1, k1, g2⟩
theorem ask2_no {E : sE} {S1 S2 : qv_St} {v : Int32} (h : qC E S1) : ask2 E S1 S2 (some (S1, v)) (some (S2, v)) := ⟨S1, S2, v, rfl, rfl, h, frE_rf, frQ_rf⟩
theorem wI_sub {x lo : Int32} {S1 S2 : qv_St} {q1 k1 q2 k2 n : Nat} (h1 : S1.1 q1 k1 = nI n) (h2 : S2.1 q2 k2 = nI n) : wI x lo (S1.1 q1 k1 - 1) = wI x lo (nI n - 1) ∧ wI x lo (S2.1 q2 k2 - 1) = wI x lo (nI n - 1) := by rw [h1, h2]; exact ⟨rfl, rfl⟩
theorem noI {E : sE} {lv : Nat} {S1 S2 : qv_St} {x : Int32} (h1 : qC E S1) (h2 : qM lv E S2) : (fX11_isNoise S1 x = some 0 ∧ fX12_isNoise S2 x = some 0) ∨ ∃ k, k < E.1 9 0 ∧ x = nI k ∧ fX11_isNoise S1 x = some 1 ∧ fX12_isNoise S2 x = some 1 := by
  have hb := h1.1.1.1
  rw [isNoiseC, isNoiseM h2.2.1.2.1 h2.2.1.1, h1.2.1.1.1, h2.2.1.2.2.1]
  rcases wI_n x (n := E.1 9 0) (by omega) with g | ⟨k, g1, g2, g3⟩
  · rw [g]; exact Or.inl ⟨rfl, rfl⟩
  · rw [g3]; exact Or.inr ⟨k, g1, g2, rfl, rfl⟩
theorem plI {E : sE} {lv : Nat} {S1 S2 : qv_St} {x : Int32} (h1 : qC E S1) (h2 : qM lv E S2) : (fX11_isPlace S1 x = some 0 ∧ fX12_isPlace S2 x = some 0) ∨ ∃ k, k < E.1 9 1 ∧ x = nI k ∧ fX11_isPlace S1 x = some 1 ∧ fX12_isPlace S2 x = some 1 := by
  have hb := h1.1.1.2.1
  rw [isPlaceC, isPlaceM h2.2.1.2.1 h2.2.1.1, h1.2.1.1.2.1, h2.2.1.2.2.2.1]
  rcases wI_n x (n := E.1 9 1) (by omega) with g | ⟨k, g1, g2, g3⟩
  · rw [g]; exact Or.inl ⟨rfl, rfl⟩
  · rw [g3]; exact Or.inr ⟨k, g1, g2, rfl, rfl⟩
theorem shI {E : sE} {lv : Nat} {S1 S2 : qv_St} {x : Int32} (h1 : qC E S1) (h2 : qM lv E S2) : (fX11_isShot S1 x = some 0 ∧ fX12_isShot S2 x = some 0) ∨ ∃ k, k < E.1 9 2 ∧ x = nI k ∧ fX11_isShot S1 x = some 1 ∧ fX12_isShot S2 x = some 1 := by
  have hb := h1.1.1.2.2.1
  rw [isShotC, isShotM h2.2.1.2.1 h2.2.1.1, h1.2.1.1.2.2.1, h2.2.1.2.2.2.2.1]
  rcases wI_n x (n := E.1 9 2) (by omega) with g | ⟨k, g1, g2, g3⟩
  · rw [g]; exact Or.inl ⟨rfl, rfl⟩
  · rw [g3]; exact Or.inr ⟨k, g1, g2, rfl, rfl⟩
theorem rgI (x lo hi : Int32) (a b : Nat) (hlo : lo = nI a) (hhi : hi = nI b) (hb : b < 2 ^ 30) (ha : a ≤ b) : (fX11_within x lo hi = some 0 ∧ fX12_in x lo hi = some 0) ∨ ∃ k, a ≤ k ∧ k ≤ b ∧ x = nI k ∧ fX11_within x lo hi = some 1 ∧ fX12_in x lo hi = some 1 := by
  rw [withinC, inM]
  rcases wI_r x hlo hhi hb ha with g | ⟨k, g1, g2, g3, g4⟩
  · rw [g]; exact Or.inl ⟨rfl, rfl⟩
  · rw [g4]; exact Or.inr ⟨k, g1, g2, g3, rfl, rfl⟩
theorem b0 {ρ : Type} {c : Int32 → Option ρ} : (some (0 : Int32)).bind c = c 0 := rfl
theorem b1 {ρ : Type} {c : Int32 → Option ρ} : (some (1 : Int32)).bind c = c 1 := rfl
theorem n10 : ¬ (1 : Int32) = 0 := by decide
theorem hear7C {E : sE} {S : qv_St} {k p n : Nat} (h : HC E S) (hv : vE E) (hk : k < E.1 9 0) (hp : p < E.1 9 1) (hn : n < 10000) : okk (fX7_heardOf S (nI k) (nI p) (nI n)) (fun z => z.2 = nI (hrE E k p (E.2.2.2 0 + n)) ∧ HC E z.1 ∧ frC S z.1) := by
  unfold fX7_heardOf
  simp only [qb_e]
  have h8 := hv.1.1
  have h0 := hv.2.2 0 (by decide)
  have hpd := hv.2.2 (4 + k) (by omega)
  rw [h.2.1.1, nI_add, qi_cl (by omega), h.2.1.2.2.2.2.1 k (by omega)]
  refine ok_ck k rfl (by omega) (by decide) (ok_cm (ageC2 h hv hk (by omega) (by omega)) ?_)
  rintro S5 r ⟨hr, hC5, hf5⟩
  have hr : r = _ := hr
  have hC5 : HC E S5 := hC5
  have hf5 : frC S S5 := hf5
  subst hr
  refine ok_cm (heardC hC5 hv hk hp (fun a ha => agE_lt hv hk ha)) ?_
  rintro S6 r ⟨hr, hC6, hf6⟩
  exact ok_s ⟨hr, hC6, frC_tr hf5 hf6⟩
theorem call_heard {E : sE} {lv : Nat} {S1 S2 : qv_St} (h1 : qC E S1) (h2 : qM lv E S2) (a b c : Int32) : ask2 E S1 S2 (fX11_heard S1 a b c) (fX12_heard S2 a b c) := by
  unfold fX11_heard fX12_heard
  rcases noI (x := a) h1 h2 with ⟨e1, e2⟩ | ⟨k, hk, rfl, e1, e2⟩
  · rw [e1, e2, b0, b0, if_pos rfl, if_pos rfl]; exact ask2_no h1
  rw [e1, e2, b1, b1, if_neg n10, if_neg n10]
  rcases plI (x := b) h1 h2 with ⟨e1, e2⟩ | ⟨p, hp, rfl, e1, e2⟩
  · rw [e1, e2, b0, b0, if_pos rfl, if_pos rfl]; exact ask2_no h1
  rw [e1, e2, b1, b1, if_neg n10, if_neg n10]
  rcases rgI c 0 300 0 300 rfl rfl (by decide) (by decide) with ⟨e1, e2⟩ | ⟨n, _, hn, rfl, e1, e2⟩
  · rw [e1, e2, b0, b0, if_pos rfl, if_pos rfl]; exact ask2_no h1
  rw [e1, e2, b1, b1, if_neg n10, if_neg n10]
  have h0 := h1.1.2.2 0 (by decide)
  refine ask2_mk (nI (hrE E k p (E.2.2.2 0 + n))) ?_ ?_
  · refine ok_cm (hear7C h1.2.1 h1.1 hk hp (by omega)) ?_
    rintro S5 r ⟨hr, hC5, hf5⟩
    exact ok_s ⟨hr, qC_fr h1 hC5 hf5, frE_C hf5⟩
  · refine ok_bd (copiesQ h2) ?_
    rintro T ⟨hT, hf⟩
    rw [tc0, hT.2.1 0 (by decide), nI_add]
    refine ok_ck 0 rfl (by decide) (by decide) (ok_cm (heardM hT h2.1 hk hp (by omega)) ?_)
    rintro S5 r ⟨hr, hf5⟩
    exact ok_s ⟨hr, frQ_tr hf (frQ_B hf5)⟩
theorem call_loud {E : sE} {lv : Nat} {S1 S2 : qv_St} (h1 : qC E S1) (h2 : qM lv E S2) (a b : Int32) : ask2 E S1 S2 (fX11_loud S1 a b) (fX12_loud S2 a b) := by
  unfold fX11_loud fX12_loud
  rcases plI (x := a) h1 h2 with ⟨e1, e2⟩ | ⟨p, hp, rfl, e1, e2⟩
  · rw [e1, e2, b0, b0, if_pos rfl, if_pos rfl]; exact ask2_no h1
  rw [e1, e2, b1, b1, if_neg n10, if_neg n10]
  rcases rgI b 0 300 0 300 rfl rfl (by decide) (by decide) with ⟨e1, e2⟩ | ⟨n, _, hn, rfl, e1, e2⟩
  · rw [e1, e2, b0, b0, if_pos rfl, if_pos rfl]; exact ask2_no h1
  rw [e1, e2, b1, b1, if_neg n10, if_neg n10]
  have h0 := h1.1.2.2 0 (by decide)
  refine ask2_mk (nI (loE E p n)) ?_ ?_
  · refine ok_bd (faceQ h1 hp) ?_
    rintro T ⟨hT, hf⟩
    refine ok_cm (noiseC hT (by omega)) ?_
    rintro S5 r ⟨hr, hS5, hf5⟩
    exact ok_s ⟨hr, qC_SV hS5, frE_tr hf (frE_D hf5)⟩
  · refine ok_bd (copiesQ h2) ?_
    rintro T ⟨hT, hf⟩
    rw [tc0, hT.2.1 0 (by decide), nI_add]
    refine ok_ck 0 rfl (by decide) (by decide) (ok_cm (loudM hT h2.1 hp (by omega)) ?_)
    rintro S5 r ⟨hr, hf5⟩
    exact ok_s ⟨hr, frQ_tr hf (frQ_B hf5)⟩
