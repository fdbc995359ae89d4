/-! orders of shots -/
def ndB (E : sE) (s : Nat) : Bool := !(E.2.2.2 (12 + s) == 2 ^ (E.1 17 s) - 1)
def dsF (P : Nat → Bool) : Nat → List Nat
  | 0 => []
  | n + 1 => if P n = true ∧ (dsF P n).length < 5 then dsF P n ++ [n] else dsF P n
theorem gd_l {l r : List Nat} {i : Nat} (h : i < l.length) : (l ++ r).getD i 0 = l.getD i 0 := by
  rw [List.getD_eq_getElem?_getD, List.getD_eq_getElem?_getD, List.getElem?_append_left h]
theorem gd_r {l : List Nat} {x : Nat} : (l ++ [x]).getD l.length 0 = x := by
  rw [List.getD_eq_getElem?_getD, List.getElem?_append_right (Nat.le_refl _), Nat.sub_self]; rfl
theorem gd_m {l : List Nat} {i : Nat} (h : i < l.length) : l.getD i 0 ∈ l := by
  rw [List.getD_eq_getElem?_getD, List.getElem?_eq_getElem h]
  exact List.getElem_mem h
theorem dsF_len {P : Nat → Bool} : ∀ n, (dsF P n).length ≤ 5
  | 0 => Nat.zero_le _
  | n + 1 => by
    have := dsF_len (P := P) n
    rw [dsF]
    split
    · rw [List.length_append]; simp; omega
    · exact this
theorem dsF_lt {P : Nat → Bool} : ∀ n, ∀ x, x ∈ dsF P n → x < n
  | 0, x, h => by cases h
  | n + 1, x, h => by
    rw [dsF] at h
    split at h
    · rcases List.mem_append.mp h with h | h
      · have := dsF_lt n x h; omega
      · rw [List.mem_singleton] at h; omega
    · have := dsF_lt n x h; omega
theorem dsF_inc {P : Nat → Bool} : ∀ n i j, i < j → j < (dsF P n).length → (dsF P n).getD i 0 < (dsF P n).getD j 0
  | 0, i, j, _, h => absurd h (Nat.not_lt_zero _)
  | n + 1, i, j, hij, h => by
    rw [dsF] at h ⊢
    split
    · rename_i hc
      rw [if_pos hc, List.length_append] at h
      have h : j < (dsF P n).length + 1 := h
      by_cases e : j = (dsF P n).length
      · rw [e, gd_l (by omega), gd_r]
        exact dsF_lt n _ (gd_m (by omega))
      · rw [gd_l (by omega), gd_l (by omega)]
        exact dsF_inc n i j hij (by omega)
    · rename_i hc
      rw [if_neg hc] at h
      exact dsF_inc n i j hij h
def mD (E : sE) : Nat := (dsF (ndB E) (E.1 9 2)).length
def duE (E : sE) (i : Nat) : Nat := (dsF (ndB E) (E.1 9 2)).getD i 0
theorem mD_le {E : sE} : mD E ≤ 5 := dsF_len _
theorem duE_lt {E : sE} {i : Nat} (h : i < mD E) : duE E i < E.1 9 2 := by
  unfold duE
  exact dsF_lt _ _ (gd_m h)
def nxE (E : sE) (p i e : Nat) : Option Nat := if fs (fun n => goE E p (duE E i) n) e 301 < e + 301 then some (fs (fun n => goE E p (duE E i) n) e 301 + E.1 17 (duE E i)) else none
theorem nxE_le {E : sE} (hv : vE E) {p i e e2 : Nat} (hi : i < mD E) (h : nxE E p i e = some e2) : e2 ≤ e + 309 := by
  unfold nxE at h
  have hL := hv.1.2.2.2.2.2.2.2.2 _ (duE_lt hi)
  by_cases z : fs (fun n => goE E p (duE E i) n) e 301 < e + 301
  · rw [if_pos z] at h; cases h; omega
  · rw [if_neg z] at h; cases h
def pf (E : sE) (p : Nat) : Nat → Nat → Option (Nat × Nat)
  | 0, _ => some (0, 0)
  | j + 1, w => match pf E p j (w / 5) with
    | none => none
    | some q => if w % 5 < mD E ∧ inS q.1 (w % 5) = false then (nxE E p (w % 5) q.2).map (fun e => (q.1 ||| 2 ^ (w % 5), e)) else none
theorem pf_n {E : sE} {p j w : Nat} (h : pf E p j (w / 5) = none) : pf E p (j + 1) w = none := by rw [pf, h]
theorem pf_s {E : sE} {p j w : Nat} {q : Nat × Nat} (h : pf E p j (w / 5) = some q) : pf E p (j + 1) w = if w % 5 < mD E ∧ inS q.1 (w % 5) = false then (nxE E p (w % 5) q.2).map (fun e => (q.1 ||| 2 ^ (w % 5), e)) else none := by rw [pf, h]
/-- a prefix that can't be leads nowhere -/
theorem pf_no {E : sE} {p : Nat} : ∀ (t j v w : Nat), w / 5 ^ t = v → pf E p j v = none → pf E p (j + t) w = none
  | 0, j, v, w, h, hn => by
    rw [Nat.pow_zero, Nat.div_one] at h
    subst h
    exact hn
  | t + 1, j, v, w, h, hn => by
    rw [← Nat.add_assoc]
    refine pf_n (pf_no t j v (w / 5) ?_ hn)
    rw [Nat.div_div_eq_div_mul, ← h]
    congr 1
    rw [Nat.pow_succ, Nat.mul_comm]
def cnt (u : Nat) : Nat := cn (inS u) 8
theorem cnt_add : ∀ u, u < 32 → ∀ i, i < 5 → inS u i = false → cnt (u ||| 2 ^ i) = cnt u + 1 := by decide
theorem cnt_full : ∀ m, m ≤ 5 → ∀ u, u < 2 ^ m → cnt u = m → u = 2 ^ m - 1 := by decide
theorem cnt_all : ∀ m, m ≤ 5 → cnt (2 ^ m - 1) = m := by decide
theorem pf_b {E : sE} (hv : vE E) {p : Nat} : ∀ (j w : Nat) (q : Nat × Nat), pf E p j w = some q → q.1 < 2 ^ (mD E) ∧ q.2 ≤ 309 * j ∧ cnt q.1 = j
  | 0, w, q, h => by
    cases h
    exact ⟨Nat.two_pow_pos _, Nat.le_refl _, rfl⟩
  | j + 1, w, q, h => by
    have h5 := mD_le (E := E)
    cases hq : pf E p j (w / 5) with
    | none => rw [pf_n hq] at h; cases h
    | some r =>
      rw [pf_s hq] at h
      obtain ⟨g1, g2, g3⟩ := pf_b hv j _ r hq
      have h32 : 2 ^ (mD E) ≤ 2 ^ 5 := Nat.pow_le_pow_right (by decide) h5
      by_cases z : w % 5 < mD E ∧ inS r.1 (w % 5) = false
      · rw [if_pos z] at h
        cases hn : nxE E p (w % 5) r.2 with
        | none => rw [hn] at h; cases h
        | some e2 =>
          rw [hn] at h
          cases h
          have := nxE_le hv z.1 hn
          refine ⟨Nat.or_lt_two_pow g1 (Nat.pow_lt_pow_right (by decide) z.1), by show e2 ≤ 309 * (j + 1); omega, ?_⟩
          show cnt (r.1 ||| 2 ^ (w % 5)) = j + 1
          rw [cnt_add r.1 (by omega) _ (by omega) z.2, g3]
      · rw [if_neg z] at h; cases h
def bO (E : sE) (p : Nat) : Nat → Option (Nat × Nat)
  | 0 => none
  | n + 1 => match pf E p (mD E) n with
    | none => bO E p n
    | some r => match bO E p n with
      | none => some (n, r.2)
      | some q => if r.2 < q.2 then some (n, r.2) else some q
def eM (E : sE) (p k : Nat) : Nat → Nat → Nat
  | 0, _ => 1000000
  | n + 1, c => match pf E p k n with
    | none => eM E p k n c
    | some r => if r.1 = c ∧ r.2 < eM E p k n c then r.2 else eM E p k n c
theorem eM_s {E : sE} {p k n c : Nat} {r : Nat × Nat} (h : pf E p k n = some r) : eM E p k (n + 1) c = if r.1 = c ∧ r.2 < eM E p k n c then r.2 else eM E p k n c := by rw [eM, h]
theorem eM_n {E : sE} {p k n c : Nat} (h : pf E p k n = none) : eM E p k (n + 1) c = eM E p k n c := by rw [eM, h]
theorem eM_skip {E : sE} {p k a c : Nat} : ∀ t, (∀ w, a ≤ w → w < a + t → pf E p k w = none) → eM E p k (a + t) c = eM E p k a c
  | 0, _ => rfl
  | t + 1, h => by rw [← Nat.add_assoc, eM, h (a + t) (by omega) (by omega)]; exact eM_skip t (fun w h1 h2 => h w h1 (by omega))
theorem bO_skip {E : sE} {p a : Nat} : ∀ t, (∀ w, a ≤ w → w < a + t → pf E p (mD E) w = none) → bO E p (a + t) = bO E p a
  | 0, _ => rfl
  | t + 1, h => by rw [← Nat.add_assoc, bO, h (a + t) (by omega) (by omega)]; exact bO_skip t (fun w h1 h2 => h w h1 (by omega))
/-- all ways behind a prefix that can't be -/
theorem ways_no {E : sE} {p j v t : Nat} (h : pf E p j v = none) : ∀ w, v * 5 ^ t ≤ w → w < (v + 1) * 5 ^ t → pf E p (j + t) w = none := by
  intro w h1 h2
  refine pf_no t j v w ?_ h
  have hp : 0 < 5 ^ t := Nat.pow_pos (by decide)
  apply Nat.le_antisymm
  · have : w / 5 ^ t < v + 1 := Nat.div_lt_of_lt_mul (by rw [Nat.mul_comm]; exact h2)
    omega
  · exact (Nat.le_div_iff_mul_le hp).mpr h1
theorem eM_pre {E : sE} {p j v t c : Nat} (h : pf E p j v = none) : eM E p (j + t) ((v + 1) * 5 ^ t) c = eM E p (j + t) (v * 5 ^ t) c := by
  have := eM_skip (E := E) (p := p) (k := j + t) (a := v * 5 ^ t) (c := c) (5 ^ t) (fun w h1 h2 => ways_no h w h1 (by rw [Nat.add_mul, Nat.one_mul]; exact h2))
  rw [Nat.add_mul, Nat.one_mul]
  exact this
theorem bO_pre {E : sE} {p j v t : Nat} (h : pf E p j v = none) (hm : j + t = mD E) : bO E p ((v + 1) * 5 ^ t) = bO E p (v * 5 ^ t) := by
  have := bO_skip (E := E) (p := p) (a := v * 5 ^ t) (5 ^ t) (fun w h1 h2 => by rw [← hm]; exact ways_no h w h1 (by rw [Nat.add_mul, Nat.one_mul]; exact h2))
  rw [Nat.add_mul, Nat.one_mul]
  exact this
theorem eM_or {E : sE} (hv : vE E) {p k c : Nat} (hk : k ≤ 5) : ∀ n, eM E p k n c = 1000000 ∨ eM E p k n c ≤ 309 * k
  | 0 => Or.inl rfl
  | n + 1 => by
    cases hq : pf E p k n with
    | none => rw [eM_n hq]; exact eM_or hv hk n
    | some r =>
      have := pf_b hv k n r hq
      rw [eM_s hq]
      by_cases z : r.1 = c ∧ r.2 < eM E p k n c
      · rw [if_pos z]; exact Or.inr this.2.1
      · rw [if_neg z]; exact eM_or hv hk n
theorem bO_eM {E : sE} (hv : vE E) {p : Nat} : ∀ n, (bO E p n = none ∧ eM E p (mD E) n (2 ^ (mD E) - 1) = 1000000) ∨ ∃ q, bO E p n = some q ∧ eM E p (mD E) n (2 ^ (mD E) - 1) = q.2 ∧ q.2 ≤ 1545 ∧ q.1 < n ∧ (pf E p (mD E) q.1).isSome = true
  | 0 => Or.inl ⟨rfl, rfl⟩
  | n + 1 => by
    have h5 := mD_le (E := E)
    rw [bO, eM]
    cases hq : pf E p (mD E) n with
    | none =>
      rcases bO_eM hv (p := p) n with h | ⟨q, h1, h2, h3, h4, h6⟩
      · exact Or.inl h
      · exact Or.inr ⟨q, h1, h2, h3, by omega, h6⟩
    | some r =>
      obtain ⟨g1, g2, g3⟩ := pf_b hv _ _ _ hq
      have hr := cnt_full _ h5 r.1 g1 g3
      rcases bO_eM hv (p := p) n with ⟨h1, h2⟩ | ⟨q, h1, h2, h3, h4, h6⟩
      · rw [h1, h2]
        refine Or.inr ⟨(n, r.2), rfl, ?_, by show r.2 ≤ 1545; omega, Nat.lt_succ_self _, by rw [hq]; rfl⟩
        show (if r.1 = 2 ^ (mD E) - 1 ∧ r.2 < 1000000 then r.2 else 1000000) = r.2
        rw [if_pos ⟨hr, by omega⟩]
      · rw [h1, h2]
        by_cases z : r.2 < q.2
        · refine Or.inr ⟨(n, r.2), ?_, ?_, by show r.2 ≤ 1545; omega, Nat.lt_succ_self _, by rw [hq]; rfl⟩
          · show (if r.2 < q.2 then some (n, r.2) else some q) = _
            rw [if_pos z]
          · show (if r.1 = 2 ^ (mD E) - 1 ∧ r.2 < q.2 then r.2 else q.2) = r.2
            rw [if_pos ⟨hr, z⟩]
        · refine Or.inr ⟨q, ?_, ?_, h3, by omega, h6⟩
          · show (if r.2 < q.2 then some (n, r.2) else some q) = _
            rw [if_neg z]
          · show (if r.1 = 2 ^ (mD E) - 1 ∧ r.2 < q.2 then r.2 else q.2) = q.2
            rw [if_neg (fun y => z y.2)]
/-! the class's plan -/
def PL (E : sE) (S : qv_St) : Prop := S.1 263 7 = nI (mD E) ∧ ∀ j, j < mD E → S.1 264 j = nI (duE E j)
theorem qC_keep {E : sE} {S T : qv_St} (h : qC E S) (f : ∀ q, q < 263 → T.1 q = S.1 q) : qC E T := by
  refine ⟨h.1, HC_keep h.2.1 (fun q hq => f q (by omega)), ?_⟩
  rw [f 260 (by decide)]
  rcases h.2.2 with g | ⟨p, g1, g2, g3, g4⟩
  · exact Or.inl g
  · exact Or.inr ⟨p, by rw [f 260 (by decide)]; exact g1, g2, by rw [f 261 (by decide)]; exact g3, by rw [f 262 (by decide)]; exact g4⟩
theorem SV_keep {E : sE} {p : Nat} {S T : qv_St} (h : SV E p S) (f : ∀ q, q < 263 → T.1 q = S.1 q) : SV E p T := by
  obtain ⟨h1, h2, g1, g2, g3, g4⟩ := h
  exact ⟨h1, HC_keep h2 (fun q hq => f q (by omega)), by rw [f 260 (by decide)]; exact g1, g2, by rw [f 261 (by decide)]; exact g3, by rw [f 262 (by decide)]; exact g4⟩
theorem gatherC {E : sE} {S : qv_St} (h : qC E S) : okk (fX3_gather S) (fun z => qC E z ∧ frE S z ∧ PL E z ∧ (∀ c, c < 32 → z.1 266 c = if c = 0 then 0 else nI 1000000)) := by
  unfold fX3_gather
  have hN5 := qN
  generalize qv_N = N at hN5 ⊢
  simp only [qj_e, qb_e]
  have hv := h.1
  have h6 := hv.1.2.2.1
  refine ok_lp2 (fun m T x => ∃ i, m = E.1 9 2 - i ∧ i ≤ E.1 9 2 ∧ x = nI i ∧ T.1 263 7 = nI (dsF (ndB E) i).length ∧ (∀ j, j < (dsF (ndB E) i).length → T.1 264 j = nI ((dsF (ndB E) i).getD j 0)) ∧ T.2 = S.2 ∧ (∀ q, q ≠ 263 → q ≠ 264 → T.1 q = S.1 q)) ?_ N (E.1 9 2) _ 0 ⟨0, rfl, by omega, rfl, by rw [qs_si, qs_eq, upd_eq]; rfl, fun j hj => absurd hj (Nat.not_lt_zero _), rfl, fun q q1 q2 => by rw [qs_si, qs_ne q1]⟩ (by omega)
  rintro self m T x ⟨i, rfl, hi, rfl, hm, hd, h2, hq⟩ ih
  have hlen := dsF_len (P := ndB E) i
  have hT : qC E T := qC_keep h (fun q hq2 => hq q (by omega) (by omega))
  have fin : (dsF (ndB E) i = dsF (ndB E) (E.1 9 2)) → okk ((fJ7_fill_53178 T 266 32 1000000).bind fun S_3 => qv_ck 0 32 (some (qv_si S_3 266 (Int32.toNatClampNeg 0) 0))) (fun z => qC E z ∧ frE S z ∧ PL E z ∧ (∀ c, c < 32 → z.1 266 c = if c = 0 then 0 else nI 1000000)) := by
    intro he
    rw [he] at hm hd
    rw [fill_eq (by decide), Option.bind_some, tc0, qs_si, qs_qs, qs_eq]
    refine ok_ck 0 rfl (by decide) (by decide) (ok_s ⟨qC_keep hT (fun q hq2 => qs_ne (by omega)), ⟨h2, fun q q1 q2 q3 q4 => by rw [qs_ne (by omega), hq q (by omega) (by omega)]⟩, ⟨by rw [qs_ne (by decide)]; exact hm, fun j hj => by rw [qs_ne (by decide)]; exact hd j hj⟩, fun c hc => ?_⟩)
    rw [qs_eq]
    by_cases e : c = 0
    · rw [e, upd_eq, if_pos rfl]
    · rw [upd_ne e, if_pos hc, if_neg e]; rfl
  rw [hT.2.1.1.2.2.1, hm]
  by_cases e : i = E.1 9 2
  · exact ok_pos (by rw [e]; exact Int32.le_refl _) (fin (by rw [e]))
  · refine ok_neg (nI_ge (by omega) (by omega)) ?_
    by_cases h5 : (dsF (ndB E) i).length = 5
    · refine ok_pos (by rw [h5]; exact Int32.le_refl _) (fin ?_)
      have : ∀ t, (dsF (ndB E) (i + t)) = dsF (ndB E) i := by
        intro t
        induction t with
        | zero => rfl
        | succ t iht => rw [← Nat.add_assoc, dsF, iht, if_neg (by omega)]
      have h9 := this (E.1 9 2 - i)
      rw [show i + (E.1 9 2 - i) = E.1 9 2 by omega] at h9
      exact h9.symm
    · refine ok_neg (show ¬ (5 : Int32) ≤ nI _ from nI_ge (b := 5) (by omega) (by decide)) ?_
      rw [doneC hT.2.1 hv (by omega), Option.bind_some, qi_cl (by omega), nI_1]
      by_cases z : E.2.2.2 (12 + i) = 2 ^ (E.1 17 i) - 1
      · rw [if_pos z]
        have hn : dsF (ndB E) (i + 1) = dsF (ndB E) i := by
          rw [dsF, if_neg]
          intro y
          have := y.1
          unfold ndB at this
          rw [z] at this
          simp at this
        exact ok_neg n10 (ih (E.1 9 2 - (i + 1)) _ _ (by omega) ⟨i + 1, rfl, by omega, rfl, by rw [hn]; exact hm, by rw [hn]; exact hd, h2, hq⟩)
      · rw [if_neg z]
        have hn : dsF (ndB E) (i + 1) = dsF (ndB E) i ++ [i] := by
          rw [dsF, if_pos]
          refine ⟨?_, by omega⟩
          unfold ndB
          rw [beq_eq_false_iff_ne.mpr z]
          rfl
        refine ok_pos rfl (ok_ck _ rfl (by omega) (by decide) (ih (E.1 9 2 - (i + 1)) _ _ (by omega) ⟨i + 1, rfl, by omega, rfl, ?_, fun j hj => ?_, h2, fun q q1 q2 => ?_⟩))
        · rw [hn, qs_si, qs_eq, upd_eq, qs_si, qs_ne (by decide), hm, nI_1, List.length_append]
          rfl
        · rw [hn, List.length_append] at hj
          have hj : j < (dsF (ndB E) i).length + 1 := hj
          rw [hn, qs_si, qs_ne (by decide), qs_si, qs_eq]
          by_cases ej : j = (dsF (ndB E) i).length
          · rw [ej, upd_eq, gd_r]
          · rw [upd_ne ej, gd_l (by omega)]; exact hd j (by omega)
        · rw [qs_si, qs_ne q1, qs_si, qs_ne q2]; exact hq q q1 q2
