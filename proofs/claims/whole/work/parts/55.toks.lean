/-! the tokens as both sides read them -/
def tk (B : Nat → Nat) (L i : Nat) : Nat := if i < nT B L then kd B L (ps B L i) else 24
def tp (B : Nat → Nat) (L i : Nat) : Nat := if i < nT B L then ps B L i else L
/-- the name or the number of a token, letter by letter -/
def tf (B : Nat → Nat) (L i : Nat) : Nat → Nat := fun j => bz B L (ps B L i + j)
def tr (B : Nat → Nat) (L i : Nat) : Nat := rn B L (ps B L i)
def tnum (B : Nat → Nat) (L i : Nat) : Nat := dv (tf B L i) (tr B L i)
def tkC' (B : Nat → Nat) (L : Nat) (S : qv_St) : Prop := S.1 3 3 = nI L ∧ S.1 3 4 = nI (nT B L) ∧ (∀ i, i < nT B L → ps B L i < L ∧ tokC B L S i) ∧ nT B L ≤ 401 ∧ (nT B L < 401 → ps B L (nT B L) = L)
def tkM' (B : Nat → Nat) (L : Nat) (S : qv_St) : Prop := (∀ i, i < nT B L → ps B L i < L ∧ tokM B L S i) ∧ nT B L ≤ 401 ∧ (nT B L < 401 → ps B L (nT B L) = L ∧ S.1 3 (nT B L) = 0 ∧ S.1 4 (nT B L) = nI L)
theorem tkC_fr {B : Nat → Nat} {L : Nat} {S S' : qv_St} (h : tkC' B L S) (h3 : S'.1 3 = S.1 3) (h4 : S'.1 4 = S.1 4) (h5 : S'.1 5 = S.1 5) (h6 : S'.2 6 = S.2 6) : tkC' B L S' := by
  unfold tkC' tokC at *
  rw [h3, h4, h5, h6]
  exact h
theorem tkM_fr {B : Nat → Nat} {L : Nat} {S S' : qv_St} (h : tkM' B L S) (h3 : S'.1 3 = S.1 3) (h4 : S'.1 4 = S.1 4) (h5 : S'.1 5 = S.1 5) (h6 : S'.2 6 = S.2 6) : tkM' B L S' := by
  unfold tkM' tokM at *
  rw [h3, h4, h5, h6]
  exact h
theorem kindAtC {B : Nat → Nat} {L i : Nat} {S : qv_St} (h : tkC' B L S) (hi : i < 2 ^ 31) : fX9_kindAt S (nI i) = some (nI (tk B L i)) := by
  obtain ⟨h1, h2, h3, h4, h5⟩ := h
  unfold fX9_kindAt tk
  simp only [qj_e]
  rw [if_neg (nI_pos hi), h2]
  by_cases g : i < nT B L
  · rw [if_neg (nI_ge g (by omega)), qi_ck (by omega) (by decide), qi_cl hi, (h3 i g).2.1, if_pos g]
  · rw [if_pos (nI_le (by omega) hi), if_neg g]; rfl
theorem placeAtC {B : Nat → Nat} {L i : Nat} {S : qv_St} (h : tkC' B L S) (hi : i < 2 ^ 31) : fX9_placeAt S (nI i) = some (nI (tp B L i)) := by
  obtain ⟨h1, h2, h3, h4, h5⟩ := h
  unfold fX9_placeAt tp
  simp only [qj_e]
  rw [if_neg (nI_pos hi), h2, h1]
  by_cases g : i < nT B L
  · rw [if_neg (nI_ge g (by omega)), qi_ck (by omega) (by decide), qi_cl hi, (h3 i g).2.2.1, if_pos g]
  · rw [if_pos (nI_le (by omega) hi), if_neg g]
theorem kd_23 {B : Nat → Nat} {L p : Nat} (h : kd B L p = 23) : so (bz B L p) = 1 ∧ rn B L p ≤ 4 := by
  unfold kd at h
  by_cases h0 : so (bz B L p) = 0
  · rw [if_pos h0] at h
    split at h
    · have := wd_le (fun j => bz B L (p + j)) (rn B L p); omega
    · omega
  · rw [if_neg h0] at h
    by_cases h1 : so (bz B L p) = 1
    · rw [if_pos h1] at h
      split at h
      · exact ⟨h1, by assumption⟩
      · omega
    · rw [if_neg h1] at h
      exact absurd h (sg_no _).2.1
theorem kd_22 {B : Nat → Nat} {L p : Nat} (h : kd B L p = 22) : so (bz B L p) = 0 ∧ rn B L p ≤ 8 := by
  unfold kd at h
  by_cases h0 : so (bz B L p) = 0
  · rw [if_pos h0] at h
    split at h
    · exact ⟨h0, by assumption⟩
    · omega
  · rw [if_neg h0] at h
    by_cases h1 : so (bz B L p) = 1
    · rw [if_pos h1] at h
      split at h <;> omega
    · rw [if_neg h1] at h
      exact absurd h (sg_no _).1
theorem kd_24 {B : Nat → Nat} {L p : Nat} : kd B L p ≠ 24 := by
  intro h
  unfold kd at h
  by_cases h0 : so (bz B L p) = 0
  · rw [if_pos h0] at h
    split at h
    · have := wd_le (fun j => bz B L (p + j)) (rn B L p); omega
    · omega
  · rw [if_neg h0] at h
    by_cases h1 : so (bz B L p) = 1
    · rw [if_pos h1] at h
      split at h <;> omega
    · rw [if_neg h1] at h
      exact absurd h (sg_no _).2.2
theorem tk_24 {B : Nat → Nat} {L i : Nat} : tk B L i = 24 ↔ nT B L ≤ i := by
  unfold tk
  by_cases g : i < nT B L
  · rw [if_pos g]
    exact ⟨fun z => absurd z kd_24, fun z => by omega⟩
  · rw [if_neg g]
    exact ⟨fun _ => by omega, fun _ => rfl⟩
theorem tk_in {B : Nat → Nat} {L i : Nat} (h : tk B L i ≠ 24) : i < nT B L ∧ tk B L i = kd B L (ps B L i) := by
  have g : i < nT B L := by
    rcases Nat.lt_or_ge i (nT B L) with z | z
    · exact z
    · exact absurd (tk_24.mpr z) h
  exact ⟨g, if_pos g⟩
theorem valueAtC {B : Nat → Nat} {L i : Nat} {S : qv_St} (h : tkC' B L S) (hi : i < 2 ^ 31) : okk (fX9_valueAt S (nI i)) (fun z => (tk B L i = 23 → z = lN (tnum B L i)) ∧ (tk B L i = 22 → z = lN (cb 32 (tf B L i) (tr B L i)))) := by
  obtain ⟨h1, h2, h3, h4, h5⟩ := h
  unfold fX9_valueAt
  simp only [qj_e]
  rw [if_neg (nI_pos hi), h2]
  by_cases g : i < nT B L
  · rw [if_neg (nI_ge g (by omega)), qi_ck (by omega) (by decide), qi_cl hi]
    have et : tk B L i = kd B L (ps B L i) := if_pos g
    refine ok_s ⟨fun z => ?_, fun z => ?_⟩
    · rw [et] at z
      obtain ⟨k1, k2⟩ := kd_23 z
      exact ((h3 i g).2.2.2 (by omega)).1 k1
    · rw [et] at z
      obtain ⟨k1, k2⟩ := kd_22 z
      exact ((h3 i g).2.2.2 k2).2 k1
  · rw [if_pos (nI_le (by omega) hi)]
    have et : tk B L i = 24 := if_neg g
    exact ok_s ⟨fun z => by omega, fun z => by omega⟩
theorem tf_lets {B : Nat → Nat} {L i : Nat} (hL : L ≤ 2000) (hp : i < nT B L → ps B L i < L) (h : tk B L i = 22) : lets (tf B L i) (tr B L i) ∧ tr B L i ≤ 8 := by
  obtain ⟨g, e⟩ := tk_in (B := B) (L := L) (i := i) (by omega)
  obtain ⟨k1, k2⟩ := kd_22 (e.symm.trans h)
  exact ⟨rn_lets hL (hp g) k1, k2⟩
theorem dv_lt {f : Nat → Nat} : ∀ n, (∀ j, j < n → 48 ≤ f j ∧ f j ≤ 57) → dv f n < 10 ^ n
  | 0, _ => Nat.lt_of_lt_of_le Nat.zero_lt_one (Nat.le_refl _)
  | n + 1, h => by
    have h1 := dv_lt n (fun j hj => h j (by omega))
    have h2 := h n (by omega)
    rw [dv, Nat.pow_succ]
    omega
theorem tv_lt {B : Nat → Nat} {L i : Nat} (hL : L ≤ 2000) (hp : i < nT B L → ps B L i < L) (h : tk B L i = 23) : tnum B L i ≤ 9999 := by
  obtain ⟨g, e⟩ := tk_in (B := B) (L := L) (i := i) (by omega)
  obtain ⟨k1, k2⟩ := kd_23 (e.symm.trans h)
  have h1 := dv_lt (f := tf B L i) (tr B L i) (rn_digs hL (hp g) k1)
  have h2 : (10 : Nat) ^ (tr B L i) ≤ 10 ^ 4 := Nat.pow_le_pow_right (by decide) k2
  unfold tnum
  omega
theorem kindM {B : Nat → Nat} {L i : Nat} {S : qv_St} (h : tkM' B L S) (hi : i ≤ nT B L) (h4 : i ≤ 400) : S.1 3 i = nI (km (tk B L i)) ∧ S.1 4 i = nI (tp B L i) := by
  unfold tk tp
  by_cases g : i < nT B L
  · rw [if_pos g, if_pos g]
    exact ⟨(h.1 i g).2.1, (h.1 i g).2.2.1⟩
  · rw [if_neg g, if_neg g]
    have e : i = nT B L := by omega
    have := h.2.2 (by omega)
    rw [e]
    exact this.2
