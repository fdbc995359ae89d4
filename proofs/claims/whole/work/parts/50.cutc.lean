/-! cutting on the class's side -/
def nx (B : Nat → Nat) (L i : Nat) : Nat := fs (fun j => !(decide (j < L) && (so (bz B L j) == 2))) i (L + 1 - i)
theorem nx_blank {B : Nat → Nat} {L i : Nat} (hi : i < L) (h : so (bz B L i) = 2) : nx B L i = nx B L (i + 1) := by
  unfold nx
  rw [show L + 1 - i = (L + 1 - (i + 1)) + 1 by omega, fs]
  rw [if_neg]
  simp [hi, h]
theorem nx_blanks {B : Nat → Nat} {L i : Nat} : ∀ r, (∀ j, j < r → i + j < L ∧ so (bz B L (i + j)) = 2) → nx B L i = nx B L (i + r)
  | 0, _ => rfl
  | r + 1, h => by
    rw [nx_blanks r (fun j hj => h j (by omega)), ← Nat.add_assoc]
    exact nx_blank (h r (by omega)).1 (h r (by omega)).2
theorem nx_self {B : Nat → Nat} {L i : Nat} (h : ¬ (i < L ∧ so (bz B L i) = 2)) (hi : i ≤ L) : nx B L i = i := by
  unfold nx
  rw [show L + 1 - i = (L - i) + 1 by omega, fs, if_pos]
  by_cases g : i < L
  · have : so (bz B L i) ≠ 2 := fun z => h ⟨g, z⟩
    simp [this]
  · simp [g]
/-- where the tokens lie -/
def ps (B : Nat → Nat) (L : Nat) : Nat → Nat
  | 0 => nx B L 0
  | k + 1 => nx B L (ps B L k + rn B L (ps B L k))
def sg (c : Nat) : Nat := if c = 59 ∨ c = 61 ∨ c = 43 ∨ c = 45 ∨ c = 42 ∨ c = 47 ∨ c = 60 ∨ c = 40 ∨ c = 41 then c else 25
def kd (B : Nat → Nat) (L p : Nat) : Nat := if so (bz B L p) = 0 then (if rn B L p ≤ 8 then wd (fun j => bz B L (p + j)) (rn B L p) else 25) else if so (bz B L p) = 1 then (if rn B L p ≤ 4 then 23 else 25) else sg (bz B L p)
def dv (f : Nat → Nat) : Nat → Nat
  | 0 => 0
  | n + 1 => dv f n * 10 + (f n - 48)
theorem rn_lets {B : Nat → Nat} {L p : Nat} (hL : L ≤ 2000) (hp : p < L) (h : so (bz B L p) = 0) : lets (fun j => bz B L (p + j)) (rn B L p) := by
  intro j hj
  have h1 := (rn_spec (B := B) hL hp).2.2.1 j hj
  rw [h] at h1
  show 97 ≤ bz B L (p + j) ∧ bz B L (p + j) ≤ 122
  unfold so at h1
  by_cases z : 97 ≤ bz B L (p + j) ∧ bz B L (p + j) ≤ 122
  · exact z
  · rw [if_neg z] at h1
    split at h1
    · cases h1
    · split at h1 <;> cases h1
theorem rn_digs {B : Nat → Nat} {L p : Nat} (hL : L ≤ 2000) (hp : p < L) (h : so (bz B L p) = 1) : ∀ j, j < rn B L p → 48 ≤ bz B L (p + j) ∧ bz B L (p + j) ≤ 57 := by
  intro j hj
  have h1 := (rn_spec (B := B) hL hp).2.2.1 j hj
  rw [h] at h1
  unfold so at h1
  by_cases z : 97 ≤ bz B L (p + j) ∧ bz B L (p + j) ≤ 122
  · rw [if_pos z] at h1; cases h1
  · rw [if_neg z] at h1
    by_cases y : 48 ≤ bz B L (p + j) ∧ bz B L (p + j) ≤ 57
    · exact y
    · rw [if_neg y] at h1
      split at h1 <;> cases h1
theorem chr1 : ∀ j, j < 176 → ∀ S : qv_St, fJ0_charAt_5068e S 1 (nI j) = some (nI ((qv_b1.getD j 0).toNatClampNeg)) := by
  intro j hj S
  have h : ∀ j, j < 176 → fJ0_charAt_5068e ((fun _ _ => 0), (fun _ _ => 0)) 1 (nI j) = some (nI ((qv_b1.getD j 0).toNatClampNeg)) := by decide +kernel
  exact h j hj
theorem isWordC {B : Nat → Nat} {L p r k : Nat} {S : qv_St} (h : txC B L S) (hB : ∀ k, B k < 256) (hL : L ≤ 2000) (hp : p < L) (hr : r ≤ 8) (hk : k < 22) (hf : lets (fun j => bz B L (p + j)) r) : fX9_isWord S (nI k) (nI p) (nI r) = some (if isW (fun j => bz B L (p + j)) r k = true then 1 else 0) := by
  have key : okk (fX9_isWord S (nI k) (nI p) (nI r)) (fun z => z = (if isW (fun j => bz B L (p + j)) r k = true then 1 else 0)) := by
    unfold fX9_isWord
    have hN5 := qN
    generalize qv_N = N at hN5 ⊢
    simp only [qj_e, qb_e]
    have e8 : nI k * 8 = nI (8 * k) := by rw [show (8 : Int32) = nI 8 from rfl, pk_mul, Nat.mul_comm]
    have elen : fJ0_length_8abf5 S 1 = some (nI 176) := rfl
    have e88 : nI (8 * k) + 8 = nI (8 * k + 8) := nI_add _ 8
    rw [e8, elen, Option.bind_some, e88]
    refine ok_pos (nI_le (by omega) (by decide)) ?_
    have hpad := isW_pad (f := fun j => bz B L (p + j)) hr hf hk
    refine ok_lp1 (fun m x => ∃ j, m = 8 - j ∧ j ≤ 8 ∧ x = nI j ∧ ∀ i, i < j → (if i < r then bz B L (p + i) else 32) = wB k i) ?_ N 8 0 ⟨0, rfl, by omega, rfl, fun i hi => by omega⟩ (by omega)
    rintro self m x ⟨j, rfl, hj, rfl, hjj⟩ ih
    by_cases e : j = 8
    · refine ok_pos (by rw [e]; decide) (ok_s ?_)
      rw [if_pos (hpad.mpr (by rw [e] at hjj; exact hjj))]
    · refine ok_neg (show ¬ (8 : Int32) ≤ nI j from nI_ge (b := 8) (by omega) (by decide)) ?_
      rw [nI_add, nI_add, byteC h hL (by omega), Option.bind_some, chr1 (8 * k + j) (by omega) S, Option.bind_some, nI_1]
      have hwb := w_b1 k hk j (by omega)
      have hwl : wB k j < 256 := by
        by_cases z : j < wl k
        · have := w_let k hk j z; omega
        · rw [w_sp k hk j (by omega) (by omega)]; decide
      rw [hwb, qi_cl (by omega)]
      have hb := bz_lt (L := L) (i := p + j) hB
      have fin : ∀ t : Nat, t < 256 → (t = if j < r then bz B L (p + j) else 32) → okk (if nI (wB k j) = nI t then self (nI (j + 1)) else some 0) (fun z => z = (if isW (fun j => bz B L (p + j)) r k = true then 1 else 0)) := by
        intro t ht hte
        refine ok_if (fun g => ih (8 - (j + 1)) _ (by omega) ⟨j + 1, rfl, by omega, rfl, fun i hi => ?_⟩) (fun g => ok_s ?_)
        · have g := (nI_eq (by omega) (by omega)).mp g
          by_cases ei : i = j
          · rw [ei, ← hte]; exact g.symm
          · exact hjj i (by omega)
        · rw [if_neg]
          intro z
          have := hpad.mp z j (by omega)
          rw [← hte] at this
          exact g (by rw [this])
      by_cases z : j < r
      · exact ok_neg (nI_ge z (by omega)) (fin _ hb (by rw [if_pos z]))
      · exact ok_pos (nI_le (by omega) (by omega)) (fin 32 (by decide) (by rw [if_neg z]))
  obtain ⟨v, h1, rfl⟩ := key
  exact h1
theorem wordC {B : Nat → Nat} {L p r : Nat} {S : qv_St} (h : txC B L S) (hB : ∀ k, B k < 256) (hL : L ≤ 2000) (hp : p < L) (hr : r ≤ 8) (hf : lets (fun j => bz B L (p + j)) r) : fX9_wordOrName S (nI p) (nI r) = some (nI (wd (fun j => bz B L (p + j)) r)) := by
  have key : okk (fX9_wordOrName S (nI p) (nI r)) (fun z => z = nI (wd (fun j => bz B L (p + j)) r)) := by
    unfold fX9_wordOrName
    have hN5 := qN
    generalize qv_N = N at hN5 ⊢
    refine ok_lp1 (fun m x => ∃ j, m = 22 - j ∧ j ≤ 22 ∧ x = nI j ∧ ∀ i, i < j → isW (fun j => bz B L (p + j)) r i = false) ?_ N 22 0 ⟨0, rfl, by omega, rfl, fun i hi => by omega⟩ (by omega)
    rintro self m x ⟨j, rfl, hj, rfl, hjj⟩ ih
    by_cases e : j = 22
    · refine ok_pos (by rw [e]; decide) (ok_s ?_)
      have : wd (fun j => bz B L (p + j)) r = 22 := fs_uniq (by omega) (by omega) (fun k _ hk => hjj k (by omega)) (fun h => by omega)
      rw [this]; rfl
    · refine ok_neg (show ¬ (22 : Int32) ≤ nI j from nI_ge (b := 22) (by omega) (by decide)) ?_
      rw [isWordC h hB hL hp hr (by omega) hf, Option.bind_some, nI_1]
      cases hb : isW (fun j => bz B L (p + j)) r j with
      | false =>
        refine ok_pos rfl (ih (22 - (j + 1)) _ (by omega) ⟨j + 1, rfl, by omega, rfl, fun i hi => ?_⟩)
        by_cases ei : i = j
        · rw [ei]; exact hb
        · exact hjj i (by omega)
      | true =>
        refine ok_neg (by decide) (ok_s ?_)
        rw [wd_of hf (by omega) hb]
  obtain ⟨v, h1, rfl⟩ := key
  exact h1
theorem sgC : ∀ c, c < 256 → ∀ S : qv_St, fJ0_indexOf_0f7a4 S 0 ((Int32.toUInt32 (nI c) % 65536).toInt32) = some (if sg c = 25 then -1 else nI ((qv_b0.findIdx? (fun x => x == nI c)).getD 0)) := by
  intro c hc S
  have h : ∀ c, c < 256 → fJ0_indexOf_0f7a4 ((fun _ _ => 0), (fun _ _ => 0)) 0 ((Int32.toUInt32 (nI c) % 65536).toInt32) = some (if sg c = 25 then -1 else nI ((qv_b0.findIdx? (fun x => x == nI c)).getD 0)) := by decide +kernel
  exact h c hc
theorem sg_ix : ∀ c, c < 256 → ((if sg c = 25 then (-1 : Int32) else nI ((qv_b0.findIdx? (fun x => x == nI c)).getD 0)) < 0 ↔ sg c = 25) := by decide +kernel
theorem sg_or (c : Nat) : sg c = 25 ∨ sg c = c := by
  unfold sg
  split
  · exact Or.inr rfl
  · exact Or.inl rfl
theorem kindC {B : Nat → Nat} {L p : Nat} {S : qv_St} (h : txC B L S) (hB : ∀ k, B k < 256) (hL : L ≤ 2000) (hp : p < L) : fX9_kindOf S (nI p) (nI (rn B L p)) (nI (so (bz B L p))) = some (nI (kd B L p)) := by
  have hs := so_le (bz B L p)
  have hrl := (rn_spec (B := B) hL hp).2.1
  unfold fX9_kindOf kd
  by_cases h0 : so (bz B L p) = 0
  · rw [if_pos (by rw [h0]; rfl), if_pos h0]
    by_cases g : rn B L p ≤ 8
    · rw [if_pos (show nI (rn B L p) ≤ 8 from nI_le (b := 8) g (by decide)), wordC h hB hL hp g (rn_lets hL hp h0), if_pos g]; rfl
    · rw [if_neg (show ¬ nI (rn B L p) ≤ 8 from nI_ge (a := 8) (by omega) (by omega)), if_neg g]; rfl
  · rw [if_neg (nI_ne0 (by omega) (by omega)), if_neg h0]
    by_cases h1 : so (bz B L p) = 1
    · rw [if_pos (by rw [h1]; rfl), if_pos h1]
      by_cases g : rn B L p ≤ 4
      · rw [if_pos (show nI (rn B L p) ≤ 4 from nI_le (b := 4) g (by decide)), if_pos g]; rfl
      · rw [if_neg (show ¬ nI (rn B L p) ≤ 4 from nI_ge (a := 4) (by omega) (by omega)), if_neg g]; rfl
    · rw [if_neg (show ¬ nI (so (bz B L p)) = 1 from fun z => h1 ((nI_eq (b := 1) (by omega) (by decide)).mp z)), if_neg h1, byteC h hL (by omega), Option.bind_some, sgC _ (bz_lt hB) S, Option.bind_some]
      have hix := sg_ix _ (bz_lt (L := L) (i := p) hB)
      by_cases g : sg (bz B L p) = 25
      · rw [if_pos (hix.mpr g), g]; rfl
      · rw [if_neg (fun z => g (hix.mp z))]
        rcases sg_or (bz B L p) with y | y
        · exact absurd y g
        · rw [y]
