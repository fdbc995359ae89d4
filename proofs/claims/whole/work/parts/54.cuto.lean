/-! the reference's cut as a whole -/
theorem kd_let {B : Nat → Nat} {L p : Nat} (h : so (bz B L p) = 0) : kd B L p = if rn B L p ≤ 8 then wd (fun j => bz B L (p + j)) (rn B L p) else 25 := by unfold kd; rw [if_pos h]
theorem kd_dig {B : Nat → Nat} {L p : Nat} (h : so (bz B L p) = 1) : kd B L p = if rn B L p ≤ 4 then 23 else 25 := by unfold kd; rw [if_neg (by omega), if_pos h]
theorem kd_sgn {B : Nat → Nat} {L p : Nat} (h0 : so (bz B L p) ≠ 0) (h1 : so (bz B L p) ≠ 1) : kd B L p = sg (bz B L p) := by unfold kd; rw [if_neg h0, if_neg h1]
theorem rn_sgn {B : Nat → Nat} {L p : Nat} (h : so (bz B L p) = 3) : rn B L p = 1 := by unfold rn; rw [if_pos h]
theorem wd8 {f : Nat → Nat} : wd f 8 = 22 := by
  refine fs_uniq (by omega) (by omega) (fun k _ hk => ?_) (fun h => by omega)
  unfold isW
  rw [decide_eq_false]
  rintro ⟨h1, _⟩
  have := (w_len k (by omega)).2
  omega
def cutPm (B : Nat → Nat) (L : Nat) (S Z : qv_St) : Prop := (∀ i, i < nT B L → ps B L i < L ∧ tokM B L Z i) ∧ nT B L ≤ 401 ∧ (nT B L < 401 → ps B L (nT B L) = L ∧ Z.1 3 (nT B L) = 0 ∧ Z.1 4 (nT B L) = nI L) ∧ cutFm S Z
theorem cutM {B : Nat → Nat} {L : Nat} {S : qv_St} (h : txM B L S) (hB : ∀ k, B k < 256) (hL : L ≤ 2000) (hk : kM S) : okk (fX12_cut S) (cutPm B L S) := by
  unfold fX12_cut
  have htx : ∀ W : qv_St, cutFm S W → txM B L W := fun W w => ⟨by rw [w.2.1 4 (by decide)]; exact h.1, fun j hj => by rw [w.1 2 (by decide) (by decide) (by decide) (by decide)]; exact h.2 j hj⟩
  have hkk : ∀ W : qv_St, cutFm S W → ∀ k, k < 22 → W.2 7 k = lN (cb 27 (wB k) (wl k)) := fun W w k hk2 => by rw [w.2.2 7 (by decide), hk k hk2, w_key k hk2]
  refine ok_b (fun X => X.1 0 10 = nI 0 ∧ cutFm S X) ⟨by rw [qs_si, qs_eq, upd_eq]; rfl, fun c h0 _ _ _ => by rw [qs_si, qs_ne h0], fun k h4 => by rw [qs_si, qs_eq, upd_ne h4], fun c _ => rfl⟩ ?_
  rintro X ⟨x1, x2⟩
  simp only [qj_e, qb_e]
  have hN5 := qN
  generalize qv_N = N at hN5 ⊢
  refine ok_lp2 (fun m Z i => ∃ a k, m = L - a ∧ i = nI a ∧ a ≤ L ∧ k ≤ 401 ∧ nx B L a = ps B L k ∧ Z.1 0 10 = nI k ∧ (∀ i, i < k → ps B L i < L ∧ tokM B L Z i) ∧ cutFm S Z) ?_ N L X 0 ⟨0, 0, rfl, rfl, by omega, by omega, rfl, x1, fun i hi => by omega, x2⟩ (by omega)
  rintro self m Z i ⟨a, k, rfl, rfl, ha, hk4, hnx, z1, z3, z4⟩ ih
  have hT := htx Z z4
  have hkZ := hkk Z z4
  rw [z1]
  by_cases e4 : k = 401
  · refine ok_pos (by rw [e4]; decide) (ok_s ?_)
    have e := nT_of (B := B) (L := L) hk4 (fun i hi => (z3 i hi).1) (fun g => by omega)
    unfold cutPm
    rw [e]
    exact ⟨z3, hk4, fun g => by omega, z4⟩
  refine ok_neg (show ¬ (400 : Int32) < nI k from fun z => by have := (nI_ltI (a := 400) (by decide) (by omega)).mp z; omega) ?_
  -- what a token does to the state
  have push : ∀ (kk : Nat) (c : Int32) (d : Int64) (T : qv_St), a < L → ps B L k = a → kk = kd B L a → (kd B L a = 23 → c = nI (dv (fun j => bz B L (a + j)) (rn B L a))) → (kd B L a = 22 → d = lN (cb 27 (fun j => bz B L (a + j)) (rn B L a))) → (T.1 0 = upd (Z.1 0) 10 (nI (k + 1)) ∧ T.1 3 = upd (Z.1 3) k (nI (km kk)) ∧ T.1 4 = upd (Z.1 4) k (nI a) ∧ T.1 5 = upd (Z.1 5) k c ∧ T.2 6 = vp_updL (Z.2 6) k d ∧ (∀ q, q ≠ 0 → q ≠ 3 → q ≠ 4 → q ≠ 5 → T.1 q = Z.1 q) ∧ ∀ q, q ≠ 6 → T.2 q = Z.2 q) → okk (self T (nI (a + rn B L a))) (cutPm B L S) := by
    rintro kk c d T hal hpa rfl hc hd ⟨t0, t3, t4, t5, t6, t7, t8⟩
    obtain ⟨r1, r2, r3, r4⟩ := rn_spec (B := B) hL hal
    refine ih (L - (a + rn B L a)) _ _ (by omega) ⟨a + rn B L a, k + 1, rfl, rfl, r2, by omega, by rw [ps, hpa], by rw [t0, upd_eq], fun i hi => ?_, fun c h0 h3 h4 h5 => by rw [t7 c h0 h3 h4 h5]; exact z4.1 c h0 h3 h4 h5, fun j hj => by rw [t0, upd_ne hj]; exact z4.2.1 j hj, fun c hc => by rw [t8 c hc]; exact z4.2.2 c hc⟩
    by_cases ei : i = k
    · rw [ei, hpa]
      refine ⟨hal, ?_⟩
      unfold tokM
      have ev : vp_updL (Z.2 6) k d k = d := by simp [vp_updL]
      rw [hpa, t3, t4, t5, t6, upd_eq, upd_eq, upd_eq, ev]
      exact ⟨rfl, rfl, hc, hd⟩
    · have zi := z3 i (by omega)
      refine ⟨zi.1, ?_⟩
      have zt := zi.2
      unfold tokM at zt ⊢
      have ev : vp_updL (Z.2 6) k d i = Z.2 6 i := by simp [vp_updL, ei]
      rw [t3, t4, t5, t6, upd_ne ei, upd_ne ei, upd_ne ei, ev]
      exact zt
  rw [byteM hT hL (by omega), Option.bind_some, hT.1]
  by_cases e : a = L
  · refine ok_neg (fun z => by have := (nI_ltI (by omega) (by omega)).mp z; omega) ?_
    have hpk : ps B L k = L := by
      rw [← hnx, e]
      exact nx_self (fun z => absurd z.1 (Nat.lt_irrefl _)) (Nat.le_refl _)
    have en := nT_of (B := B) (L := L) hk4 (fun i hi => (z3 i hi).1) (fun g => by rw [hpk]; exact Nat.lt_irrefl _)
    obtain ⟨T, T1, t0, t3, t4, t5, t6, t7, t8⟩ := tokenM z1 (by omega) 0 (nI L) 0 0
    rw [T1, Option.bind_some]
    refine ok_s ?_
    unfold cutPm
    rw [en]
    refine ⟨fun i hi => ⟨(z3 i hi).1, ?_⟩, hk4, fun _ => ⟨hpk, by rw [t3, upd_eq], by rw [t4, upd_eq]⟩, fun c h0 h3 h4 h5 => by rw [t7 c h0 h3 h4 h5]; exact z4.1 c h0 h3 h4 h5, fun j hj => by rw [t0, upd_ne hj]; exact z4.2.1 j hj, fun c hc => by rw [t8 c hc]; exact z4.2.2 c hc⟩
    have zt := (z3 i hi).2
    have ei : i ≠ k := by omega
    unfold tokM at zt ⊢
    have ev : vp_updL (Z.2 6) k 0 i = Z.2 6 i := by simp [vp_updL, ei]
    rw [t3, t4, t5, t6, upd_ne ei, upd_ne ei, upd_ne ei, ev]
    exact zt
  have hal : a < L := by omega
  refine ok_pos ((nI_ltI (by omega) (by omega)).mpr hal) ?_
  have hb := bz_lt (L := L) (i := a) hB
  have hs := so_le (bz B L a)
  obtain ⟨r1, r2, r3, r4⟩ := rn_spec (B := B) hL hal
  rw [nI_1]
  by_cases g : so (bz B L a) = 2
  · have nxt : okk (self Z (nI (a + 1))) (cutPm B L S) := ih (L - (a + 1)) _ _ (by omega) ⟨a + 1, k, rfl, rfl, by omega, hk4, by rw [← hnx]; exact (nx_blank hal g).symm, z1, z3, z4⟩
    rcases so_bl.mp g with c | c | c | c
    · exact ok_pos (by rw [c]; rfl) nxt
    · exact ok_neg (by rw [c]; decide) (ok_pos (by rw [c]; rfl) nxt)
    · exact ok_neg (by rw [c]; decide) (ok_neg (by rw [c]; decide) (ok_pos (by rw [c]; rfl) nxt))
    · exact ok_neg (by rw [c]; decide) (ok_neg (by rw [c]; decide) (ok_neg (by rw [c]; decide) (ok_pos (by rw [c]; rfl) nxt)))
  have hpa : ps B L k = a := by rw [← hnx]; exact nx_self (fun z => g z.2) ha
  have nb : ∀ c, c < 2 ^ 31 → (c = 9 ∨ c = 10 ∨ c = 13 ∨ c = 32) → ¬ nI (bz B L a) = nI c := fun c hc2 hc3 z => g (so_bl.mpr (by rw [(nI_eq (by omega) hc2).mp z]; exact hc3))
  refine ok_neg (nb 9 (by decide) (by decide)) (ok_neg (nb 10 (by decide) (by decide)) (ok_neg (nb 13 (by decide) (by decide)) (ok_neg (nb 32 (by decide) (by decide)) ?_)))
  rw [letM _ hb, Option.bind_some]
  by_cases g0 : so (bz B L a) = 0
  · rw [if_pos g0]
    refine ok_neg (by decide) ?_
    refine letLoop (K := fun (x3_3 : Int32) (x4_5 : Int64) => _) (by omega) hT hB hL hal g0 (fun v hv => ?_)
    have hf := rn_lets hL hal g0
    have hkd := kd_let g0
    by_cases g8 : rn B L a ≤ 8
    · rw [if_pos g8] at hkd
      refine ok_pos (show nI (rn B L a) ≤ 8 from nI_le (b := 8) g8 (by decide)) ?_
      have hv := hv g8
      by_cases g7 : rn B L a ≤ 7
      · refine ok_neg (show ¬ (7 : Int32) < nI (rn B L a) from fun z => by have := (nI_ltI (a := 7) (by decide) (by omega)).mp z; omega) ?_
        rw [hv]
        refine keyLoop (f := fun j => bz B L (a + j)) (r := rn B L a) (by omega) g7 hf hkZ ?_
        obtain ⟨T, T1, hT2⟩ := tokenM z1 (by omega) (nI (km (wd (fun j => bz B L (a + j)) (rn B L a)))) (nI a) 0 (lN (cb 27 (fun j => bz B L (a + j)) (rn B L a)))
        rw [T1, Option.bind_some, nI_add]
        exact push _ _ _ T hal hpa hkd.symm (fun z => by have := wd_le (fun j => bz B L (a + j)) (rn B L a); omega) (fun _ => rfl) hT2
      · refine ok_pos (show (7 : Int32) < nI (rn B L a) from (nI_ltI (a := 7) (by decide) (by omega)).mpr (by omega)) ?_
        have e8 : rn B L a = 8 := by omega
        rw [e8, wd8] at hkd
        obtain ⟨T, T1, hT2⟩ := tokenM z1 (by omega) (nI (km 22)) (nI a) 0 v
        rw [show (1 : Int32) = nI (km 22) from rfl, T1, Option.bind_some, nI_add]
        exact push 22 _ _ T hal hpa hkd.symm (fun z => by omega) (fun _ => hv) hT2
    · rw [if_neg g8] at hkd
      refine ok_neg (show ¬ nI (rn B L a) ≤ 8 from nI_ge (a := 8) (by omega) (by omega)) ?_
      refine ok_pos (show (7 : Int32) < nI (rn B L a) from (nI_ltI (a := 7) (by decide) (by omega)).mpr (by omega)) ?_
      obtain ⟨T, T1, hT2⟩ := tokenM z1 (by omega) (nI (km 25)) (nI a) 0 v
      rw [show (3 : Int32) = nI (km 25) from rfl, T1, Option.bind_some, nI_add]
      exact push 25 _ _ T hal hpa hkd.symm (fun z => by omega) (fun z => by omega) hT2
  rw [if_neg g0]
  refine ok_pos rfl ?_
  rw [digM _ hb, Option.bind_some]
  by_cases g1 : so (bz B L a) = 1
  · rw [if_pos g1]
    refine ok_neg (by decide) ?_
    refine digLoop (K := fun (x3_1 : Int32) (x4_1 : Int32) => _) (by omega) hT hB hL hal g1 (fun v hv => ?_)
    have hkd := kd_dig g1
    by_cases g4 : rn B L a ≤ 4
    · rw [if_pos g4] at hkd
      refine ok_pos (show nI (rn B L a) ≤ 4 from nI_le (b := 4) g4 (by decide)) ?_
      obtain ⟨T, T1, hT2⟩ := tokenM z1 (by omega) (nI (km 23)) (nI a) v 0
      rw [show (2 : Int32) = nI (km 23) from rfl, T1, Option.bind_some, nI_add]
      exact push 23 _ _ T hal hpa hkd.symm (fun _ => hv g4) (fun z => by omega) hT2
    · rw [if_neg g4] at hkd
      refine ok_neg (show ¬ nI (rn B L a) ≤ 4 from nI_ge (a := 4) (by omega) (by omega)) ?_
      obtain ⟨T, T1, hT2⟩ := tokenM z1 (by omega) (nI (km 25)) (nI a) v 0
      rw [show (3 : Int32) = nI (km 25) from rfl, T1, Option.bind_some, nI_add]
      exact push 25 _ _ T hal hpa hkd.symm (fun z => by omega) (fun z => by omega) hT2
  rw [if_neg g1]
  refine ok_pos rfl ?_
  have g3 : so (bz B L a) = 3 := by omega
  rw [byteM hT hL (by omega), Option.bind_some, signM hb]
  obtain ⟨T, T1, hT2⟩ := tokenM z1 (by omega) (nI (km (sg (bz B L a)))) (nI a) 0 0
  rw [T1, Option.bind_some]
  show okk (self T (nI a + 1)) _
  rw [nI_1]
  have hkd := kd_sgn g0 g1
  have hno := sg_no (bz B L a)
  have := push _ _ _ T hal hpa hkd.symm (fun z => by omega) (fun z => by omega) hT2
  rw [rn_sgn g3] at this
  exact this
