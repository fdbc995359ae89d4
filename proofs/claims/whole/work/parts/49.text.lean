/-! the text: bytes, sorts, runs, words, codes -/
theorem nar_byte (x : Int32) : vp_nar .byte x = x.toInt8.toInt32 := rfl
theorem and255 (x : Int32) : x &&& 255 = nI (x.toBitVec.toNat % 256) := pk_and x 8 (by decide)
theorem nar255 (x : Int32) : vp_nar .byte x &&& 255 = nI (x.toBitVec.toNat % 256) := by
  rw [nar_byte, and255]
  congr 1
  show (BitVec.signExtend 32 (BitVec.signExtend 8 x.toBitVec)).toNat % 2 ^ 8 = x.toBitVec.toNat % 2 ^ 8
  rw [← BitVec.toNat_setWidth, ← BitVec.toNat_setWidth]
  congr 1
  apply BitVec.eq_of_getLsbD_eq
  intro i hi
  rw [BitVec.getLsbD_setWidth, BitVec.getLsbD_setWidth, BitVec.getLsbD_signExtend, BitVec.getLsbD_signExtend]
  simp only [hi, show i < 32 by omega, if_true, decide_true, Bool.true_and]
/-- the byte at a place, 0 behind the end -/
def bz (B : Nat → Nat) (L i : Nat) : Nat := if i < L then B i else 0
theorem bz_lt {B : Nat → Nat} {L i : Nat} (h : ∀ k, B k < 256) : bz B L i < 256 := by
  unfold bz
  split
  · exact h i
  · decide
def txC (B : Nat → Nat) (L : Nat) (S : qv_St) : Prop := S.1 1 1 = nI L ∧ ∀ k, k < L → S.1 2 k &&& 255 = nI (B k)
def txM (B : Nat → Nat) (L : Nat) (S : qv_St) : Prop := S.1 0 4 = nI L ∧ ∀ k, k < L → S.1 2 k &&& 255 = nI (B k)
theorem byteC {B : Nat → Nat} {L i : Nat} {S : qv_St} (h : txC B L S) (hL : L ≤ 2000) (hi : i < 2 ^ 31) : fX8_byteAt S (nI i) = some (nI (bz B L i)) := by
  unfold fX8_byteAt bz
  simp only [qj_e]
  rw [if_neg (nI_pos hi), h.1]
  by_cases g : i < L
  · rw [if_neg (nI_ge g (by omega)), if_neg (show ¬ (2000 : Int32) ≤ nI i from nI_ge (b := 2000) (by omega) (by decide)), qi_ck (by omega) (by decide), qi_cl hi, h.2 i g, if_pos g]
  · rw [if_pos (nI_le (by omega) hi), if_neg g]; rfl
theorem byteM {B : Nat → Nat} {L i : Nat} {S : qv_St} (h : txM B L S) (hL : L ≤ 2000) (hi : i < 2 ^ 31) : fX12_byteAt S (nI i) = some (nI (bz B L i)) := by
  unfold fX12_byteAt bz
  rw [h.1]
  by_cases g : i < L
  · rw [if_neg (nI_ge g (by omega)), qi_ck (by omega) (by decide), qi_cl hi, h.2 i g, if_pos g]
  · rw [if_pos (nI_le (by omega) hi), if_neg g]; rfl
def so (c : Nat) : Nat := if 97 ≤ c ∧ c ≤ 122 then 0 else if 48 ≤ c ∧ c ≤ 57 then 1 else if c = 9 ∨ c = 10 ∨ c = 13 ∨ c = 32 then 2 else 3
theorem sortC : ∀ c, c < 256 → fX9_sortOf (nI c) = some (nI (so c)) := by decide +kernel
theorem letM : ∀ c, c < 256 → fX12_isLetter (nI c) = some (if so c = 0 then 1 else 0) := by decide +kernel
theorem digM : ∀ c, c < 256 → fX12_isDigit (nI c) = some (if so c = 1 then 1 else 0) := by decide +kernel
theorem so_le (c : Nat) : so c ≤ 3 := by
  unfold so
  split
  · decide
  · split
    · decide
    · split <;> decide
/-- the run that begins at a place -/
def rn (B : Nat → Nat) (L i : Nat) : Nat := if so (bz B L i) = 3 then 1 else fs (fun j => !(decide (i + j < L) && (so (bz B L (i + j)) == so (bz B L i)))) 1 2001
theorem rn_spec {B : Nat → Nat} {L i : Nat} (hL : L ≤ 2000) (hi : i < L) : 1 ≤ rn B L i ∧ i + rn B L i ≤ L ∧ (∀ j, j < rn B L i → so (bz B L (i + j)) = so (bz B L i)) ∧ (so (bz B L i) ≠ 3 → ¬ (i + rn B L i < L ∧ so (bz B L (i + rn B L i)) = so (bz B L i))) := by
  unfold rn
  by_cases h3 : so (bz B L i) = 3
  · rw [if_pos h3]
    exact ⟨Nat.le_refl _, hi, fun j hj => by rw [show j = 0 by omega, Nat.add_zero], fun z => absurd h3 z⟩
  · rw [if_neg h3]
    obtain ⟨g1, g2, g3, g4⟩ := fs_spec (P := fun j => !(decide (i + j < L) && (so (bz B L (i + j)) == so (bz B L i)))) 2001 1
    generalize hf : fs (fun j => !(decide (i + j < L) && (so (bz B L (i + j)) == so (bz B L i)))) 1 2001 = f at g1 g2 g3 g4
    have hin : ∀ j, 1 ≤ j → j < f → i + j < L ∧ so (bz B L (i + j)) = so (bz B L i) := by
      intro j j1 j2
      have := g3 j j1 j2
      simpa using this
    have hle : i + f ≤ L := by
      rcases Nat.eq_or_lt_of_le g1 with z | z
      · omega
      · have := (hin (f - 1) (by omega) (by omega)).1
        omega
    refine ⟨g1, hle, fun j hj => ?_, fun _ => ?_⟩
    · by_cases e : j = 0
      · rw [e, Nat.add_zero]
      · exact (hin j (by omega) hj).2
    · have := g4 (by omega)
      intro z
      simp [z.1, z.2] at this
theorem runC {B : Nat → Nat} {L i : Nat} {S : qv_St} (h : txC B L S) (hB : ∀ k, B k < 256) (hL : L ≤ 2000) (hi : i < L) : fX9_runFrom S (nI i) (nI (so (bz B L i))) = some (nI (rn B L i)) := by
  have hs := so_le (bz B L i)
  have key : okk (fX9_runFrom S (nI i) (nI (so (bz B L i)))) (fun z => z = nI (rn B L i)) := by
    unfold fX9_runFrom
    have hN5 := qN
    generalize qv_N = N at hN5 ⊢
    obtain ⟨r1, r2, r3, r4⟩ := rn_spec (B := B) hL hi
    refine ok_lp1 (fun m x => ∃ j, m = rn B L i - j ∧ 1 ≤ j ∧ j ≤ rn B L i ∧ x = nI j) ?_ N (rn B L i - 1) 1 ⟨1, rfl, by omega, r1, rfl⟩ (by omega)
    rintro self m x ⟨j, rfl, hj0, hj, rfl⟩ ih
    refine ok_if (fun g => ok_s ?_) (fun g => ?_)
    · have g : so (bz B L i) = 3 := (nI_eq (b := 3) (by omega) (by decide)).mp g
      have : rn B L i = 1 := by unfold rn; rw [if_pos g]
      rw [show j = rn B L i by omega]
    · have g : so (bz B L i) ≠ 3 := fun z => g (by rw [z]; rfl)
      rw [h.1, nI_add]
      by_cases e : j = rn B L i
      · have r4' := r4 g
        rw [← e] at r4'
        by_cases hl : i + j < L
        · refine ok_neg (nI_ge hl (by omega)) ?_
          rw [byteC h hL (by omega), Option.bind_some, sortC _ (bz_lt hB), Option.bind_some]
          have hs2 := so_le (bz B L (i + j))
          exact ok_neg (fun z => r4' ⟨hl, (nI_eq (by omega) (by omega)).mp z⟩) (ok_s (by rw [e]))
        · exact ok_pos (nI_le (by omega) (by omega)) (ok_s (by rw [e]))
      · refine ok_neg (nI_ge (by omega) (by omega)) ?_
        rw [byteC h hL (by omega), Option.bind_some, sortC _ (bz_lt hB), Option.bind_some, r3 j (by omega), nI_1]
        exact ok_pos rfl (ih (rn B L i - (j + 1)) _ (by omega) ⟨j + 1, rfl, by omega, by omega, rfl⟩)
  obtain ⟨r, h1, rfl⟩ := key
  exact h1
/-! words and codes -/
def cb (b : Nat) (f : Nat → Nat) : Nat → Nat
  | 0 => 0
  | n + 1 => cb b f n * b + (f n - 96)
def lets (f : Nat → Nat) (n : Nat) : Prop := ∀ j, j < n → 97 ≤ f j ∧ f j ≤ 122
theorem cb_inj {b : Nat} (hb : 26 < b) {f g : Nat → Nat} : ∀ n m, lets f n → lets g m → cb b f n = cb b g m → n = m ∧ ∀ j, j < n → f j = g j
  | 0, 0, _, _, _ => ⟨rfl, fun j hj => by omega⟩
  | 0, m + 1, _, hg, h => by
    have := hg m (by omega)
    rw [cb, cb] at h
    omega
  | n + 1, 0, hf, _, h => by
    have := hf n (by omega)
    rw [cb, cb] at h
    omega
  | n + 1, m + 1, hf, hg, h => by
    have h1 := hf n (by omega)
    have h2 := hg m (by omega)
    rw [cb, cb] at h
    have e1 : (cb b f n * b + (f n - 96)) % b = (cb b g m * b + (g m - 96)) % b := by rw [h]
    rw [Nat.mul_add_mod_self_right, Nat.mul_add_mod_self_right, Nat.mod_eq_of_lt (by omega), Nat.mod_eq_of_lt (by omega)] at e1
    have e2 : cb b f n * b = cb b g m * b := by omega
    have e3 : cb b f n = cb b g m := Nat.eq_of_mul_eq_mul_right (by omega) e2
    obtain ⟨i1, i2⟩ := cb_inj hb n m (fun j hj => hf j (by omega)) (fun j hj => hg j (by omega)) e3
    refine ⟨by omega, fun j hj => ?_⟩
    by_cases e : j = n
    · rw [e]
      have e5 : g n = g m := by rw [i1]
      omega
    · exact i2 j (by omega)
theorem cb_lt {b : Nat} (hb : 26 < b) {f : Nat → Nat} : ∀ n, lets f n → cb b f n < b ^ n
  | 0, _ => Nat.lt_of_lt_of_le Nat.zero_lt_one (Nat.le_refl _)
  | n + 1, h => by
    have h1 := h n (by omega)
    have h2 := cb_lt hb n (fun j hj => h j (by omega))
    rw [cb, Nat.pow_succ]
    have : (cb b f n + 1) * b ≤ b ^ n * b := Nat.mul_le_mul_right _ h2
    rw [Nat.add_mul, Nat.one_mul] at this
    omega
def wLL : List (List Nat) := [[99, 108, 111, 99, 107], [99, 104, 97, 110, 99, 101], [112, 108, 97, 99, 101], [115, 104, 111, 116], [104, 101, 97, 114], [98, 101, 97, 114, 115], [114, 117, 115, 116, 108, 101, 115], [109, 111, 118, 101], [99, 111, 105, 110, 115], [115, 101, 101, 100], [105, 102], [116, 104, 101, 110], [101, 108, 115, 101], [108, 111, 117, 100], [97, 103, 101], [108, 97, 115, 116, 115], [102, 97, 114], [108, 105, 109, 105, 116], [115, 101, 99, 111, 110, 100], [115, 116, 111, 111, 100], [119, 104, 105, 99, 104], [100, 97, 121]]
def wl (k : Nat) : Nat := (wLL.getD k []).length
def wB (k j : Nat) : Nat := (wLL.getD k []).getD j 32
theorem w_b1 : ∀ k, k < 22 → ∀ j, j < 8 → qv_b1.getD (8 * k + j) 0 = nI (wB k j) := by decide +kernel
theorem w_let : ∀ k, k < 22 → ∀ j, j < wl k → 97 ≤ wB k j ∧ wB k j ≤ 122 := by decide +kernel
theorem w_sp : ∀ k, k < 22 → ∀ j, j < 8 → wl k ≤ j → wB k j = 32 := by decide +kernel
theorem w_len : ∀ k, k < 22 → 1 ≤ wl k ∧ wl k ≤ 7 := by decide +kernel
theorem w_key : ∀ k, k < 22 → mo_S.2 7 k = lN (cb 27 (wB k) (wl k)) := by decide +kernel
theorem w_dis : ∀ k, k < 22 → ∀ k', k' < 22 → cb 27 (wB k) (wl k) = cb 27 (wB k') (wl k') → k = k' := by decide +kernel
def isW (f : Nat → Nat) (r k : Nat) : Bool := decide (r = wl k ∧ ∀ j, j < r → f j = wB k j)
theorem isW_pad {f : Nat → Nat} {r k : Nat} (hr : r ≤ 8) (hf : lets f r) (hk : k < 22) : isW f r k = true ↔ ∀ j, j < 8 → (if j < r then f j else 32) = wB k j := by
  unfold isW
  rw [decide_eq_true_iff]
  have hw := w_len k hk
  constructor
  · rintro ⟨h1, h2⟩ j hj
    by_cases z : j < r
    · rw [if_pos z]; exact h2 j z
    · rw [if_neg z]; exact (w_sp k hk j hj (by omega)).symm
  · intro h
    have hrw : r = wl k := by
      rcases Nat.lt_trichotomy r (wl k) with z | z | z
      · have := h r (by omega)
        rw [if_neg (Nat.lt_irrefl _)] at this
        have := w_let k hk r z
        omega
      · exact z
      · have := h (wl k) (by omega)
        rw [if_pos z, w_sp k hk _ (by omega) (Nat.le_refl _)] at this
        have := hf (wl k) z
        omega
    refine ⟨hrw, fun j hj => ?_⟩
    have := h j (by omega)
    rw [if_pos hj] at this
    exact this
theorem isW_code {f : Nat → Nat} {r k : Nat} (hf : lets f r) (hk : k < 22) : isW f r k = true ↔ cb 27 (wB k) (wl k) = cb 27 f r := by
  unfold isW
  rw [decide_eq_true_iff]
  constructor
  · rintro ⟨h1, h2⟩
    have : ∀ n, (∀ j, j < n → f j = wB k j) → cb 27 (wB k) n = cb 27 f n := by
      intro n
      induction n with
      | zero => intro _; rfl
      | succ n ih => intro h; rw [cb, cb, ih (fun j hj => h j (by omega)), h n (by omega)]
    rw [← h1]
    exact this r h2
  · intro h
    obtain ⟨i1, i2⟩ := cb_inj (b := 27) (by decide) _ _ (w_let k hk) hf h
    exact ⟨i1.symm, fun j hj => (i2 j (by omega)).symm⟩
def wd (f : Nat → Nat) (r : Nat) : Nat := fs (isW f r) 0 22
theorem wd_of {f : Nat → Nat} {r k : Nat} (hf : lets f r) (hk : k < 22) (h : isW f r k = true) : wd f r = k := by
  refine fs_uniq (by omega) (by omega) (fun j _ hj => ?_) (fun _ => h)
  cases hb : isW f r j with
  | false => rfl
  | true =>
    have := w_dis j (by omega) k hk (((isW_code hf (by omega)).mp hb).trans ((isW_code hf hk).mp h).symm)
    omega
