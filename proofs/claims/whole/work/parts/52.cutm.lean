/-! the cut on the reference's side -/
def km (k : Nat) : Nat := if k < 22 then 20 + k else if k = 22 then 1 else if k = 23 then 2 else if k = 24 then 0 else if k = 59 then 4 else if k = 61 then 5 else if k = 40 then 6 else if k = 41 then 7 else if k = 43 then 8 else if k = 45 then 9 else if k = 42 then 10 else if k = 60 then 13 else if k = 47 then 15 else 3
theorem km_w {k : Nat} (h : k < 22) : km k = 20 + k := if_pos h
def sgk (x : Int32) : Int32 :=
  let t1 := if x = 59 then (4 : Int32) else if x = 61 then 5 else if x = 40 then 6 else if x = 41 then 7 else 3
  let t2 := if x = 43 then 8 else t1
  let t3 := if x = 45 then 9 else t2
  let t4 := if x = 42 then 10 else t3
  let t5 := if x = 47 then 15 else t4
  if x = 60 then 13 else t5
theorem sgk_km : ∀ c, c < 256 → sgk (nI c) = nI (km (sg c)) := by decide +kernel
theorem signM {S : qv_St} {p c : Nat} (hc : c < 256) (b : Int32) : fX12_sign S (nI p) (nI c) b = (fX12_token S (nI (km (sg c))) (nI p) 0 0).bind fun Z => some (Z, 1) := by
  rw [← sgk_km c hc]
  generalize nI c = x
  unfold fX12_sign sgk
  simp only [qj_e]
  by_cases h1 : x = 60
  · subst h1; rfl
  rw [if_neg h1]
  by_cases h2 : x = 47
  · subst h2; rfl
  rw [if_neg h2]
  by_cases h3 : x = 42
  · subst h3; rfl
  rw [if_neg h3]
  by_cases h4 : x = 45
  · subst h4; rfl
  rw [if_neg h4]
  by_cases h5 : x = 43
  · subst h5; rfl
  rw [if_neg h5]
  by_cases h6 : x = 59
  · subst h6; rfl
  rw [if_neg h6]
  by_cases h7 : x = 61
  · subst h7; rfl
  rw [if_neg h7]
  by_cases h8 : x = 40
  · subst h8; rfl
  rw [if_neg h8]
  by_cases h9 : x = 41
  · subst h9; rfl
  rw [if_neg h9]
  simp only [if_neg h1, if_neg h2, if_neg h3, if_neg h4, if_neg h5, if_neg h6, if_neg h7, if_neg h8, if_neg h9]
theorem tokenM {S : qv_St} {k : Nat} (h : S.1 0 10 = nI k) (hk : k < 403) (a b c : Int32) (d : Int64) : okk (fX12_token S a b c d) (fun Z => Z.1 0 = upd (S.1 0) 10 (nI (k + 1)) ∧ Z.1 3 = upd (S.1 3) k a ∧ Z.1 4 = upd (S.1 4) k b ∧ Z.1 5 = upd (S.1 5) k c ∧ Z.2 6 = vp_updL (S.2 6) k d ∧ (∀ q, q ≠ 0 → q ≠ 3 → q ≠ 4 → q ≠ 5 → Z.1 q = S.1 q) ∧ ∀ q, q ≠ 6 → Z.2 q = S.2 q) := by
  unfold fX12_token
  rw [h, qi_ck hk (by decide), qi_cl (by omega)]
  refine ok_b (fun X => X = qv_si S 3 k a) rfl ?_
  rintro X rfl
  have a1 : (qv_si S 3 k a).1 0 10 = nI k := by rw [qs_si, qs_ne (by decide)]; exact h
  rw [a1, qi_ck hk (by decide), qi_cl (by omega)]
  refine ok_b (fun X => X = qv_si (qv_si S 3 k a) 4 k b) rfl ?_
  rintro X rfl
  have a2 : (qv_si (qv_si S 3 k a) 4 k b).1 0 10 = nI k := by rw [qs_si, qs_ne (by decide)]; exact a1
  rw [a2, qi_ck hk (by decide), qi_cl (by omega)]
  refine ok_b (fun X => X = qv_si (qv_si (qv_si S 3 k a) 4 k b) 5 k c) rfl ?_
  rintro X rfl
  have a3 : (qv_si (qv_si (qv_si S 3 k a) 4 k b) 5 k c).1 0 10 = nI k := by rw [qs_si, qs_ne (by decide)]; exact a2
  rw [a3, qi_ck hk (by decide), qi_cl (by omega)]
  refine ok_b (fun X => X = qv_sl (qv_si (qv_si (qv_si S 3 k a) 4 k b) 5 k c) 6 k d) rfl ?_
  rintro X rfl
  refine ok_b (fun X => X = qv_si (qv_sl (qv_si (qv_si (qv_si S 3 k a) 4 k b) 5 k c) 6 k d) 0 10 (nI (k + 1))) ?_ ?_
  · rw [show (qv_sl (qv_si (qv_si (qv_si S 3 k a) 4 k b) 5 k c) 6 k d).1 0 10 = nI k from a3, nI_1]
  rintro X rfl
  refine ok_s ⟨?_, ?_, ?_, ?_, ?_, fun q h0 h3 h4 h5 => ?_, fun q h6 => ?_⟩
  · simp [qv_si, qv_sl, qv_u2]
  · simp [qv_si, qv_sl, qv_u2]
  · simp [qv_si, qv_sl, qv_u2]
  · simp [qv_si, qv_sl, qv_u2]
  · simp [qv_si, qv_sl, qv_l2]
  · simp [qv_si, qv_sl, qv_u2, h0, h3, h4, h5]
  · simp [qv_si, qv_sl, qv_l2, h6]
def tokM (B : Nat → Nat) (L : Nat) (S : qv_St) (i : Nat) : Prop := S.1 3 i = nI (km (kd B L (ps B L i))) ∧ S.1 4 i = nI (ps B L i) ∧ (kd B L (ps B L i) = 23 → S.1 5 i = nI (dv (fun j => bz B L (ps B L i + j)) (rn B L (ps B L i)))) ∧ (kd B L (ps B L i) = 22 → S.2 6 i = lN (cb 27 (fun j => bz B L (ps B L i + j)) (rn B L (ps B L i))))
def cutFm (S Z : qv_St) : Prop := (∀ c, c ≠ 0 → c ≠ 3 → c ≠ 4 → c ≠ 5 → Z.1 c = S.1 c) ∧ (∀ k, k ≠ 10 → Z.1 0 k = S.1 0 k) ∧ ∀ c, c ≠ 6 → Z.2 c = S.2 c
theorem sg_no (c : Nat) : sg c ≠ 22 ∧ sg c ≠ 23 ∧ sg c ≠ 24 := by
  unfold sg
  split
  · refine ⟨?_, ?_, ?_⟩ <;> omega
  · decide
theorem wd_le (f : Nat → Nat) (r : Nat) : wd f r ≤ 22 := by
  have := (fs_spec (P := isW f r) 22 0).2.1
  unfold wd; omega
theorem bz_end {B : Nat → Nat} {L i : Nat} (h : L ≤ i) : bz B L i = 0 := if_neg (by omega)
theorem so_bl {c : Nat} : so c = 2 ↔ (c = 9 ∨ c = 10 ∨ c = 13 ∨ c = 32) := by
  unfold so
  constructor
  · intro h
    split at h
    · cases h
    · split at h
      · cases h
      · split at h
        · assumption
        · cases h
  · intro h
    rw [if_neg (by omega), if_neg (by omega), if_pos h]
/-- the run ends where the next byte is of another sort (letters and digits) -/
theorem rn_end {B : Nat → Nat} {L a : Nat} (hL : L ≤ 2000) (ha : a < L) (h3 : so (bz B L a) ≠ 3) : so (bz B L (a + rn B L a)) ≠ so (bz B L a) := by
  have r4 := (rn_spec (B := B) hL ha).2.2.2 h3
  intro z
  by_cases g : a + rn B L a < L
  · exact r4 ⟨g, z⟩
  · rw [bz_end (by omega)] at z
    exact h3 z.symm
theorem appM {x b : Nat} (hb : 97 ≤ b ∧ b ≤ 122) : fX12_appends (lN x) (nI b) = some (lN (x * 27 + (b - 96))) := by
  unfold fX12_appends
  rw [if_neg (nI_ne0 (by omega) (by omega)), show (97 : Int32) = nI 97 from rfl, pk_sub hb.1, nI_1, nI_l (by omega), show (27 : Int64) = lN 27 from rfl, lN_mul, lN_add]
  congr 2
  omega
