/-! values and the whole cut on the class's side -/
theorem lN10 : (10 : Int64) = lN 10 := rfl
theorem lN32 : (32 : Int64) = lN 32 := rfl
theorem lN48 : (48 : Int64) = lN 48 := rfl
theorem lN97 : (97 : Int64) = lN 97 := rfl
theorem valC {B : Nat → Nat} {L p : Nat} {S : qv_St} (h : txC B L S) (hB : ∀ k, B k < 256) (hL : L ≤ 2000) (hp : p < L) : okk (fX9_valueOf S (nI p) (nI (rn B L p)) (nI (so (bz B L p)))) (fun z => rn B L p ≤ 8 → (so (bz B L p) = 1 → z = lN (dv (fun j => bz B L (p + j)) (rn B L p))) ∧ (so (bz B L p) = 0 → z = lN (cb 32 (fun j => bz B L (p + j)) (rn B L p)))) := by
  have hs := so_le (bz B L p)
  obtain ⟨r1, r2, r3, r4⟩ := rn_spec (B := B) hL hp
  unfold fX9_valueOf
  have hN5 := qN
  generalize qv_N = N at hN5 ⊢
  refine ok_lp2 (fun m x i => ∃ j, m = 8 - j ∧ i = nI j ∧ j ≤ 8 ∧ j ≤ rn B L p ∧ (so (bz B L p) = 1 → x = lN (dv (fun j => bz B L (p + j)) j)) ∧ (so (bz B L p) = 0 → x = lN (cb 32 (fun j => bz B L (p + j)) j))) ?_ N 8 0 0 ⟨0, rfl, rfl, by omega, by omega, fun _ => rfl, fun _ => rfl⟩ (by omega)
  rintro self m x i ⟨j, rfl, rfl, h8, hr, g1, g0⟩ ih
  simp only [qj_e]
  by_cases e : j = rn B L p
  · refine ok_pos (nI_le (by omega) (by omega)) (ok_s fun _ => ?_)
    rw [← e]; exact ⟨g1, g0⟩
  refine ok_neg (nI_ge (by omega) (by omega)) ?_
  by_cases e8 : j = 8
  · exact ok_pos (by rw [e8]; decide) (ok_s fun z => absurd z (by omega))
  refine ok_neg (show ¬ (8 : Int32) ≤ nI j from nI_ge (b := 8) (by omega) (by decide)) ?_
  rw [nI_add, byteC h hL (by omega), Option.bind_some, nI_1]
  have hb := bz_lt (L := L) (i := p + j) hB
  rw [nI_l (by omega)]
  refine ok_if (fun g => ?_) (fun g => ?_)
  · have g : so (bz B L p) = 1 := (nI_eq (b := 1) (by omega) (by decide)).mp g
    refine ih (8 - (j + 1)) _ _ (by omega) ⟨j + 1, rfl, rfl, by omega, by omega, fun _ => ?_, fun z => by omega⟩
    have hd := rn_digs hL hp g j (by omega)
    rw [g1 g, lN10, lN_mul, lN_add, lN48, lN_sub (by omega), dv, Nat.add_sub_assoc hd.1]
  · have g : ¬ so (bz B L p) = 1 := fun z => g (by rw [z]; rfl)
    refine ih (8 - (j + 1)) _ _ (by omega) ⟨j + 1, rfl, rfl, by omega, by omega, fun z => absurd z g, fun z => ?_⟩
    have hd := rn_lets hL hp z j (by omega)
    rw [g0 z, lN32, lN_mul, lN_add, lN97, lN_sub (Nat.le_trans hd.1 (Nat.le_add_left _ _)), lN_1, cb]
    congr 1
    show cb 32 (fun j => bz B L (p + j)) j * 32 + bz B L (p + j) - 97 + 1 = cb 32 (fun j => bz B L (p + j)) j * 32 + (bz B L (p + j) - 96)
    have := hd.1
    dsimp only at this
    omega
theorem nx_spec {B : Nat → Nat} {L i : Nat} (hi : i ≤ L) : i ≤ nx B L i ∧ nx B L i ≤ L ∧ (nx B L i < L → so (bz B L (nx B L i)) ≠ 2) := by
  obtain ⟨g1, g2, g3, g4⟩ := fs_spec (P := fun j => !(decide (j < L) && (so (bz B L j) == 2))) (L + 1 - i) i
  unfold nx
  generalize fs (fun j => !(decide (j < L) && (so (bz B L j) == 2))) i (L + 1 - i) = f at g1 g2 g3 g4
  have hle : f ≤ L := by
    rcases Nat.lt_or_ge L f with z | z
    · have := g3 L hi z
      simp at this
    · exact z
  refine ⟨g1, hle, fun z => ?_⟩
  have := g4 (by omega)
  intro y
  simp [z, y] at this
theorem ps_le {B : Nat → Nat} {L : Nat} (hL : L ≤ 2000) : ∀ k, (∀ i, i < k → ps B L i < L) → ps B L k ≤ L ∧ (ps B L k < L → so (bz B L (ps B L k)) ≠ 2)
  | 0, _ => (nx_spec (Nat.zero_le _)).2
  | k + 1, h => by
    have := (rn_spec (B := B) hL (h k (by omega))).2.1
    exact (nx_spec this).2
/-- how many tokens are cut, at most 401 -/
def nT (B : Nat → Nat) (L : Nat) : Nat := fs (fun k => !(decide (ps B L k < L))) 0 401
theorem nT_of {B : Nat → Nat} {L n : Nat} (h1 : n ≤ 401) (h2 : ∀ i, i < n → ps B L i < L) (h3 : n < 401 → ¬ ps B L n < L) : nT B L = n := by
  refine fs_uniq (by omega) (by omega) (fun k _ hk => ?_) (fun h => ?_)
  · simp [h2 k hk]
  · simp only [decide_eq_false (h3 (by omega)), Bool.not_false]
def tokC (B : Nat → Nat) (L : Nat) (S : qv_St) (i : Nat) : Prop := S.1 4 i = nI (kd B L (ps B L i)) ∧ S.1 5 i = nI (ps B L i) ∧ (rn B L (ps B L i) ≤ 8 → (so (bz B L (ps B L i)) = 1 → S.2 6 i = lN (dv (fun j => bz B L (ps B L i + j)) (rn B L (ps B L i)))) ∧ (so (bz B L (ps B L i)) = 0 → S.2 6 i = lN (cb 32 (fun j => bz B L (ps B L i + j)) (rn B L (ps B L i)))))
def cutFr (S Z : qv_St) : Prop := (∀ c, c ≠ 3 → c ≠ 4 → c ≠ 5 → Z.1 c = S.1 c) ∧ (∀ k, k ≠ 3 → k ≠ 4 → Z.1 3 k = S.1 3 k) ∧ ∀ c, c ≠ 6 → Z.2 c = S.2 c
theorem cutC {B : Nat → Nat} {L : Nat} {S : qv_St} (h : txC B L S) (hB : ∀ k, B k < 256) (hL : L ≤ 2000) : okk (fX9_cut S) (fun Z => Z.1 3 3 = nI L ∧ Z.1 3 4 = nI (nT B L) ∧ (∀ i, i < nT B L → ps B L i < L ∧ tokC B L Z i) ∧ nT B L ≤ 401 ∧ (nT B L < 401 → ps B L (nT B L) = L) ∧ cutFr S Z) := by
  unfold fX9_cut
  refine ok_b (fun X => X.1 3 4 = nI 0 ∧ cutFr S X) ⟨by rw [qs_si, qs_eq, upd_eq]; rfl, fun c h3 _ _ => by rw [qs_si, qs_ne h3], fun k _ h4 => by rw [qs_si, qs_eq, upd_ne h4], fun c _ => rfl⟩ ?_
  rintro X ⟨x1, x2, x3, x4⟩
  have hL1 : X.1 1 1 = nI L := by rw [x2 1 (by decide) (by decide) (by decide)]; exact h.1
  refine ok_b (fun Y => Y.1 3 3 = nI L ∧ Y.1 3 4 = nI 0 ∧ cutFr S Y) ⟨by rw [qs_si, qs_eq, upd_eq]; exact hL1, by rw [qs_si, qs_eq, upd_ne (by decide)]; exact x1, fun c h3 h4 h5 => by rw [qs_si, qs_ne h3]; exact x2 c h3 h4 h5, fun k h3 h4 => by rw [qs_si, qs_eq, upd_ne h3]; exact x3 k h3 h4, fun c hc => x4 c hc⟩ ?_
  rintro Y ⟨y1, y2, y3⟩
  have hN5 := qN
  generalize qv_N = N at hN5 ⊢
  refine ok_lp2 (fun m Z i => ∃ at' k, m = L - at' ∧ i = nI at' ∧ at' ≤ L ∧ k ≤ 401 ∧ nx B L at' = ps B L k ∧ Z.1 3 3 = nI L ∧ Z.1 3 4 = nI k ∧ (∀ i, i < k → ps B L i < L ∧ tokC B L Z i) ∧ cutFr S Z) ?_ N L Y 0 ⟨0, 0, rfl, rfl, by omega, by omega, rfl, y1, y2, fun i hi => by omega, y3⟩ (by omega)
  rintro self m Z i ⟨a, k, rfl, rfl, ha, hk, hnx, z1, z2, z3, z4⟩ ih
  have htx : ∀ W : qv_St, cutFr S W → txC B L W := fun W w => ⟨by rw [w.1 1 (by decide) (by decide) (by decide)]; exact h.1, fun j hj => by rw [w.1 2 (by decide) (by decide) (by decide)]; exact h.2 j hj⟩
  have done : (k < 401 → ps B L k = L) → Z.1 3 3 = nI L ∧ Z.1 3 4 = nI (nT B L) ∧ (∀ i, i < nT B L → ps B L i < L ∧ tokC B L Z i) ∧ nT B L ≤ 401 ∧ (nT B L < 401 → ps B L (nT B L) = L) ∧ cutFr S Z := by
    intro w
    have e := nT_of (B := B) (L := L) hk (fun i hi => (z3 i hi).1) (fun g => by rw [w g]; exact Nat.lt_irrefl _)
    rw [e]
    exact ⟨z1, z2, z3, hk, w, z4⟩
  simp only [qj_e, qb_e]
  rw [z1, z2]
  by_cases e : a = L
  · refine ok_pos (nI_le (by omega) (by omega)) (ok_s (done fun _ => ?_))
    rw [← hnx, e]
    exact nx_self (fun z => absurd z.1 (Nat.lt_irrefl _)) (Nat.le_refl _)
  refine ok_neg (nI_ge (by omega) (by omega)) ?_
  by_cases e4 : k = 401
  · exact ok_pos (by rw [e4]; decide) (ok_s (done fun z => by omega))
  refine ok_neg (show ¬ (401 : Int32) ≤ nI k from nI_ge (b := 401) (by omega) (by decide)) ?_
  have hal : a < L := by omega
  have hT := htx Z z4
  obtain ⟨r1, r2, r3, r4⟩ := rn_spec (B := B) hL hal
  have hs := so_le (bz B L a)
  have emx : qv_mx 1 (nI (rn B L a)) = nI (rn B L a) := by
    rw [show (1 : Int32) = nI 1 from rfl, mx_nI (by decide) (by omega), Nat.max_eq_right r1]
  rw [byteC hT hL (by omega), Option.bind_some, sortC _ (bz_lt hB), Option.bind_some, runC hT hB hL hal, Option.bind_some, emx, nI_add]
  refine ok_if (fun g => ?_) (fun g => ?_)
  · have g : so (bz B L a) = 2 := (nI_eq (b := 2) (by omega) (by decide)).mp g
    refine ih (L - (a + rn B L a)) _ _ (by omega) ⟨a + rn B L a, k, rfl, rfl, r2, hk, ?_, z1, z2, z3, z4⟩
    rw [← hnx]
    exact (nx_blanks _ (fun j hj => ⟨by omega, by rw [r3 j hj, g]⟩)).symm
  · have g : so (bz B L a) ≠ 2 := fun z => g (by rw [z]; rfl)
    have hpa : ps B L k = a := by rw [← hnx]; exact nx_self (fun z => g z.2) ha
    rw [kindC hT hB hL hal, Option.bind_some, qi_ck (by omega) (by decide), qi_cl (by omega)]
    have s1 : ∃ S5, S5 = qv_si Z 4 k (nI (kd B L a)) := ⟨_, rfl⟩
    obtain ⟨S5, s5⟩ := s1
    rw [← s5]
    have a5 : S5.1 3 = Z.1 3 := by rw [s5, qs_si, qs_ne (by decide)]
    rw [a5, z2, qi_ck (by omega) (by decide), qi_cl (by omega)]
    have s2 : ∃ S6, S6 = qv_si S5 5 k (nI a) := ⟨_, rfl⟩
    obtain ⟨S6, s6⟩ := s2
    rw [← s6]
    have a6 : S6.1 3 = Z.1 3 := by rw [s6, qs_si, qs_ne (by decide)]; exact a5
    have f6 : cutFr S S6 := ⟨fun c h3 h4 h5 => by rw [s6, qs_si, qs_ne h5, s5, qs_si, qs_ne h4]; exact z4.1 c h3 h4 h5, fun j h3 h4 => by rw [a6]; exact z4.2.1 j h3 h4, fun c hc => by rw [s6, s5]; exact z4.2.2 c hc⟩
    obtain ⟨v, v1, v2⟩ := valC (htx S6 f6) hB hL hal
    rw [v1, Option.bind_some, a6, z2, qi_ck (by omega) (by decide), qi_cl (by omega)]
    have s3 : ∃ S7, S7 = qv_sl S6 6 k v := ⟨_, rfl⟩
    obtain ⟨S7, s7⟩ := s3
    rw [← s7]
    have a7 : S7.1 = S6.1 := by rw [s7]; rfl
    rw [a7, a6, z2, nI_1]
    have s4 : ∃ S8, S8 = qv_si S7 3 4 (nI (k + 1)) := ⟨_, rfl⟩
    obtain ⟨S8, s8⟩ := s4
    rw [← s8]
    have b3 : S8.1 3 = upd (Z.1 3) 4 (nI (k + 1)) := by rw [s8, qs_si, qs_eq, a7, a6]
    have b4 : S8.1 4 = upd (Z.1 4) k (nI (kd B L a)) := by rw [s8, qs_si, qs_ne (by decide), a7, s6, qs_si, qs_ne (by decide), s5, qs_si, qs_eq]
    have b5 : S8.1 5 = upd (Z.1 5) k (nI a) := by rw [s8, qs_si, qs_ne (by decide), a7, s6, qs_si, qs_eq, s5, qs_si, qs_ne (by decide)]
    have b6 : S8.2 6 = vp_updL (Z.2 6) k v := by rw [s8, s7, s6, s5]; simp [qv_si, qv_sl, qv_l2]
    have b7 : ∀ c, c ≠ 6 → S8.2 c = Z.2 c := fun c hc => by rw [s8, s7, s6, s5]; simp [qv_si, qv_sl, qv_l2, hc]
    refine ih (L - (a + rn B L a)) _ _ (by omega) ⟨a + rn B L a, k + 1, rfl, rfl, r2, by omega, ?_, by rw [b3, upd_ne (by decide)]; exact z1, by rw [b3, upd_eq], fun i hi => ?_, fun c h3 h4 h5 => ?_, fun j h3 h4 => by rw [b3, upd_ne h4]; exact z4.2.1 j h3 h4, fun c hc => by rw [b7 c hc]; exact z4.2.2 c hc⟩
    · rw [ps, hpa]
    · by_cases ei : i = k
      · rw [ei, hpa]
        refine ⟨hal, ?_⟩
        unfold tokC
        rw [hpa, b4, b5, b6, upd_eq, upd_eq]
        refine ⟨rfl, rfl, fun z => ?_⟩
        have ev : vp_updL (Z.2 6) k v k = v := by simp [vp_updL]
        rw [ev]
        exact v2 z
      · have zi := z3 i (by omega)
        refine ⟨zi.1, ?_⟩
        have zt := zi.2
        unfold tokC at zt ⊢
        have ev : vp_updL (Z.2 6) k v i = Z.2 6 i := by simp [vp_updL, ei]
        rw [b4, b5, b6, upd_ne ei, upd_ne ei, ev]
        exact zt
    · rw [s8, qs_si, qs_ne h3, a7, s6, qs_si, qs_ne h5, s5, qs_si, qs_ne h4]
      exact z4.1 c h3 h4 h5
