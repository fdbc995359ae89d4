/-! the second walk on the class's side -/
def smN (B : Nat → Nat) (L i j : Nat) : Prop := tr B L i = tr B L j ∧ ∀ k, k < tr B L i → tf B L i k = tf B L j k
theorem cb_cg {b : Nat} {f g : Nat → Nat} : ∀ n, (∀ j, j < n → f j = g j) → cb b f n = cb b g n
  | 0, _ => rfl
  | n + 1, h => by rw [cb, cb, cb_cg n (fun j hj => h j (by omega)), h n (by omega)]
theorem cb_63 {b n : Nat} {f : Nat → Nat} (hb : 26 < b) (hb2 : b ≤ 32) (hn : n ≤ 8) (h : lets f n) : cb b f n < 2 ^ 63 := by
  have h1 := cb_lt hb n h
  have h2 : b ^ n ≤ 32 ^ n := Nat.pow_le_pow_left hb2 n
  have h3 : 32 ^ n ≤ 32 ^ 8 := Nat.pow_le_pow_right (by decide) hn
  omega
theorem smN_iff {B : Nat → Nat} {L b i j : Nat} (hb : 26 < b) (hb2 : b ≤ 32) (hL : L ≤ 2000) (hp : ∀ i, i < nT B L → ps B L i < L) (hi : tk B L i = 22) (hj : tk B L j = 22) : lN (cb b (tf B L i) (tr B L i)) = lN (cb b (tf B L j) (tr B L j)) ↔ smN B L i j := by
  obtain ⟨l1, r1⟩ := tf_lets hL (hp i) hi
  obtain ⟨l2, r2⟩ := tf_lets hL (hp j) hj
  refine ⟨fun z => ?_, fun z => ?_⟩
  · exact cb_inj hb _ _ l1 l2 ((pk_lEQ (cb_63 hb hb2 r1 l1) (cb_63 hb hb2 r2 l2)).mp z)
  · rw [← z.1, cb_cg _ z.2]
theorem sl_1 {S : qv_St} {q k : Nat} {x : Int64} : (qv_sl S q k x).1 = S.1 := rfl
theorem sl_eq {S : qv_St} {q k : Nat} {x : Int64} : (qv_sl S q k x).2 q k = x := by simp [qv_sl, qv_l2, vp_updL]
theorem sl_ne {S : qv_St} {q k j : Nat} {x : Int64} (h : j ≠ k) : (qv_sl S q k x).2 q j = S.2 q j := by simp [qv_sl, qv_l2, vp_updL, h]
theorem sl_nq {S : qv_St} {q r k : Nat} {x : Int64} (h : r ≠ q) : (qv_sl S q k x).2 r = S.2 r := by simp [qv_sl, qv_l2, h]
theorem newC {S : qv_St} {x : Int64} {n : Nat} (h2 : S.1 7 2 = nI n) (hn : n < 18) : okk (fX4_isNewName S x) (fun z => (z.2 = 0 ∧ z.1 = S ∧ ∃ j, j < n ∧ S.2 8 j = x) ∨ (z.2 = 1 ∧ (∀ j, j < n → S.2 8 j ≠ x) ∧ z.1.1 7 2 = nI (n + 1) ∧ z.1.2 8 n = x ∧ (∀ j, j ≠ n → z.1.2 8 j = S.2 8 j) ∧ (∀ q, q ≠ 8 → z.1.2 q = S.2 q) ∧ (∀ q, q ≠ 7 → z.1.1 q = S.1 q) ∧ (∀ k, k ≠ 2 → z.1.1 7 k = S.1 7 k))) := by
  unfold fX4_isNewName
  have hN5 := qN
  generalize qv_N = N at hN5 ⊢
  simp only [qj_e]
  refine ok_lp1 (fun m y => ∃ j, y = nI j ∧ m = 18 - j ∧ j ≤ n ∧ ∀ i, i < j → S.2 8 i ≠ x) ?_ N 18 0 ⟨0, rfl, rfl, Nat.zero_le _, fun i hi => by omega⟩ (by omega)
  rintro self m y ⟨j, rfl, rfl, hj, hno⟩ ih
  rw [h2]
  refine ok_if (fun g => ?_) (fun g => ?_)
  · have g := (nI_leI (by omega) (by omega)).mp g
    have e : j = n := by omega
    subst e
    refine ok_neg (show ¬ (18 : Int32) ≤ nI j from nI_ge (b := 18) hn (by decide)) (ok_ck j rfl hn (by decide) ?_)
    rw [qi_cl (by omega)]
    simp only [qb_e]
    rw [sl_1, h2, nI_1]
    refine ok_s (Or.inr ⟨rfl, hno, ?_, ?_, fun i hi => ?_, fun q hq => ?_, fun q hq => ?_, fun k hk => ?_⟩)
    · rw [qs_si, qs_eq, upd_eq]
    · show (qv_sl S 8 j x).2 8 j = x; exact sl_eq
    · show (qv_sl S 8 j x).2 8 i = S.2 8 i; exact sl_ne hi
    · show (qv_sl S 8 j x).2 q = S.2 q; exact sl_nq hq
    · rw [qs_si, qs_ne hq]; rfl
    · rw [qs_si, qs_eq, upd_ne hk]; rfl
  · have g : ¬ n ≤ j := fun z => g ((nI_leI (by omega) (by omega)).mpr z)
    refine ok_ck j rfl (by omega) (by decide) ?_
    rw [qi_cl (by omega), nI_1]
    refine ok_if (fun e => ?_) (fun e => ?_)
    · exact ok_s (Or.inl ⟨rfl, rfl, j, by omega, (lg_cmp_eq _ _).mp e⟩)
    · refine ih (18 - (j + 1)) _ (by omega) ⟨j + 1, rfl, rfl, by omega, fun i hi => ?_⟩
      by_cases ei : i = j
      · rw [ei]; exact fun z => e ((lg_cmp_eq _ _).mpr z)
      · exact hno i (by omega)
theorem refT {S : qv_St} {c x : Int32} (h : S.1 7 8 = 0) : okk (fX4_refuse S c x) (fun Z => Z.1 7 8 = c ∧ Z.1 7 7 = x ∧ (∀ q, q ≠ 7 → Z.1 q = S.1 q) ∧ (∀ k, k ≠ 7 → k ≠ 8 → Z.1 7 k = S.1 7 k) ∧ Z.2 = S.2) := by
  unfold fX4_refuse
  refine ok_pos h ?_
  simp only [qb_e]
  refine ok_s ⟨?_, ?_, fun q hq => ?_, fun k k7 k8 => ?_, rfl⟩
  · rw [qs_si, qs_eq, upd_ne (by decide), qs_si, qs_eq, upd_eq]
  · rw [qs_si, qs_eq, upd_eq]
  · rw [qs_si, qs_ne hq, qs_si, qs_ne hq]
  · rw [qs_si, qs_eq, upd_ne k7, qs_si, qs_eq, upd_ne k8]
theorem lN_i32 {n : Nat} (h : n < 2 ^ 31) : Int64.toInt32 (lN n) = nI n := by
  rw [← nI_l h, Int32.toInt32_toInt64]
theorem intC {B : Nat → Nat} {L i : Nat} {S : qv_St} (h : tkC' B L S) (hi : i < 2 ^ 31) (hL : L ≤ 2000) (hp : ∀ i, i < nT B L → ps B L i < L) (hk : tk B L i = 23) : fX9_intAt S (nI i) = some (nI (tvn B L i)) := by
  unfold fX9_intAt
  obtain ⟨r, r1, r2, r3⟩ := valueAtC h hi
  rw [r1, Option.bind_some, r2 hk]
  have := tv_lt hL (hp i) hk
  rw [lN_i32 (by omega)]
  unfold tvn
  rw [if_pos hk]
def fcN (S Z : qv_St) : Prop := (∀ q, q ≠ 7 → Z.1 q = S.1 q) ∧ (∀ k, k ≠ 2 → k ≠ 7 → k ≠ 8 → Z.1 7 k = S.1 7 k) ∧ (∀ q, q ≠ 8 → Z.2 q = S.2 q)
theorem fcN_rfl {S : qv_St} : fcN S S := ⟨fun _ _ => rfl, fun _ _ _ _ => rfl, fun _ _ => rfl⟩
theorem fcN_trans {S T U : qv_St} (h : fcN S T) (g : fcN T U) : fcN S U := ⟨fun q a => (g.1 q a).trans (h.1 q a), fun k a b c => (g.2.1 k a b c).trans (h.2.1 k a b c), fun q a => (g.2.2 q a).trans (h.2.2 q a)⟩
theorem fcN_tk {B : Nat → Nat} {L : Nat} {S Z : qv_St} (h : tkC' B L S) (g : fcN S Z) : tkC' B L Z := tkC_fr h (g.1 3 (by decide)) (g.1 4 (by decide)) (g.1 5 (by decide)) (g.2.2 6 (by decide))
def nmA (B : Nat → Nat) (L b i : Nat) (A : Nat → Int64) : Prop := (∀ j, j < nN (tk B L) i → ∃ i', i' < i ∧ tk B L i' = 22 ∧ A j = lN (cb b (tf B L i') (tr B L i'))) ∧ (∀ i', i' < i → tk B L i' = 22 → ∃ j, j < nN (tk B L) i ∧ A j = lN (cb b (tf B L i') (tr B L i')))
theorem nmA_skip {B : Nat → Nat} {L b i : Nat} {A : Nat → Int64} (h : nmA B L b i A) (hk : tk B L i ≠ 22) : nmA B L b (i + 1) A ∧ nN (tk B L) (i + 1) = nN (tk B L) i := by
  have e : nN (tk B L) (i + 1) = nN (tk B L) i := by rw [nN, if_neg hk]; rfl
  refine ⟨⟨fun j hj => ?_, fun i' hi' hk' => ?_⟩, e⟩
  · rw [e] at hj
    obtain ⟨i', h1, h2, h3⟩ := h.1 j hj
    exact ⟨i', by omega, h2, h3⟩
  · have : i' ≠ i := fun z => hk (by rw [← z]; exact hk')
    rw [e]
    exact h.2 i' (by omega) hk'
theorem nmA_push {B : Nat → Nat} {L b i : Nat} {A A' : Nat → Int64} (h : nmA B L b i A) (hk : tk B L i = 22) (h1 : A' (nN (tk B L) i) = lN (cb b (tf B L i) (tr B L i))) (h2 : ∀ j, j ≠ nN (tk B L) i → A' j = A j) : nmA B L b (i + 1) A' ∧ nN (tk B L) (i + 1) = nN (tk B L) i + 1 := by
  have e : nN (tk B L) (i + 1) = nN (tk B L) i + 1 := by rw [nN, if_pos hk]
  refine ⟨⟨fun j hj => ?_, fun i' hi' hk' => ?_⟩, e⟩
  · rw [e] at hj
    by_cases ej : j = nN (tk B L) i
    · exact ⟨i, by omega, hk, by rw [ej]; exact h1⟩
    · obtain ⟨i', g1, g2, g3⟩ := h.1 j (by omega)
      exact ⟨i', by omega, g2, by rw [h2 j ej]; exact g3⟩
  · rw [e]
    by_cases ei : i' = i
    · exact ⟨nN (tk B L) i, by omega, by rw [ei]; exact h1⟩
    · obtain ⟨j, g1, g2⟩ := h.2 i' (by omega) hk'
      exact ⟨j, by omega, by rw [h2 j (by omega)]; exact g2⟩
theorem walk2C {B : Nat → Nat} {L : Nat} {S : qv_St} (hL : L ≤ 2000) (hp : ∀ i, i < nT B L → ps B L i < L) (ht : tkC' B L S) (h8 : S.1 7 8 = 0) (hn : nN (tk B L) (nT B L) ≤ 18) : okk (fX4_checkNamesAndNumbers S) (fun Z => ∃ c i, wS (tk B L) (tvn B L) (smN B L) (nT B L) c i ∧ c ≤ 5 ∧ Z.1 7 8 = nI c ∧ (c ≠ 0 → Z.1 7 7 = nI i) ∧ fcN S Z) := by
  unfold fX4_checkNamesAndNumbers
  have hN5 := qN
  generalize qv_N = N at hN5 ⊢
  have h401 := ht.2.2.2.1
  refine ok_b (fun X => X.1 7 8 = 0 ∧ X.1 7 2 = 0 ∧ fcN S X) ⟨?_, ?_, fun q hq => ?_, fun k k2 _ _ => ?_, fun _ _ => rfl⟩ ?_
  · rw [qs_si, qs_eq, upd_ne (by decide)]; exact h8
  · rw [qs_si, qs_eq, upd_eq]
  · rw [qs_si, qs_ne hq]
  · rw [qs_si, qs_eq, upd_ne k2]
  rintro X ⟨x8, x2, xf⟩
  refine ok_lp3 (fun n T a b => fcN S T ∧ ((∃ i, n = 402 - i ∧ i ≤ nT B L ∧ b = nI i ∧ a = nI (hdT (tk B L) i) ∧ T.1 7 8 = 0 ∧ (∀ j, j < i → ∀ d, ¬ isBad (tk B L) (tvn B L) (smN B L) j d) ∧ T.1 7 2 = nI (nN (tk B L) i) ∧ nmA B L 32 i (T.2 8)) ∨ (∃ c i, c ≠ 0 ∧ c ≤ 5 ∧ wS (tk B L) (tvn B L) (smN B L) (nT B L) c i ∧ T.1 7 8 = nI c ∧ T.1 7 7 = nI i))) ?_ N 402 X 0 0 ⟨xf, Or.inl ⟨0, rfl, Nat.zero_le _, rfl, rfl, x8, fun j hj => by omega, x2, fun j hj => absurd hj (Nat.not_lt_zero _), fun i' hi' => absurd hi' (Nat.not_lt_zero _)⟩⟩ (by omega)
  rintro self n T a b ⟨hf, hI⟩ ih
  have htT := fcN_tk ht hf
  rcases hI with ⟨i, rfl, hi, rfl, rfl, t8, hno, t2, tn⟩ | ⟨c, i, c0, c5, hw, t8, t7⟩
  · rw [htT.2.1]
    refine ok_if (fun g => ?_) (fun g => ?_)
    · have g := (nI_leI (by omega) (by omega)).mp g
      have e : i = nT B L := by omega
      exact ok_s ⟨0, 0, Or.inl ⟨rfl, fun j hj => hno j (by omega)⟩, by decide, t8, fun z => absurd rfl z, hf⟩
    · have g : ¬ nT B L ≤ i := fun z => g ((nI_leI (by omega) (by omega)).mpr z)
      refine ok_pos t8 ?_
      have hk62 := kOK_lt (tk_ok (B := B) (L := L) (i := i))
      have hdle := hdT_le (K := tk B L) i
      rw [kindAtC htT (by omega), Option.bind_some, nI_1]
      have lit : ∀ m, m < 62 → (nI (tk B L i) = nI m ↔ tk B L i = m) := fun m hm => nI_eq (by omega) (by omega)
      have hdn : tk B L i ≠ 59 → hdT (tk B L) (i + 1) = hdT (tk B L) i := fun z => by rw [hdT, if_neg z]
      have next : ∀ T2, fcN S T2 → tk B L i ≠ 59 → (∀ d, ¬ isBad (tk B L) (tvn B L) (smN B L) i d) → T2.1 7 8 = 0 → T2.1 7 2 = nI (nN (tk B L) (i + 1)) → nmA B L 32 (i + 1) (T2.2 8) → okk (self T2 (nI (hdT (tk B L) i)) (nI (i + 1))) (fun Z => ∃ c i, wS (tk B L) (tvn B L) (smN B L) (nT B L) c i ∧ c ≤ 5 ∧ Z.1 7 8 = nI c ∧ (c ≠ 0 → Z.1 7 7 = nI i) ∧ fcN S Z) := by
        intro T2 a1 a2 a3 a4 a5 a6
        refine ih (402 - (i + 1)) _ _ _ (by omega) ⟨a1, Or.inl ⟨i + 1, rfl, by omega, rfl, by rw [hdn a2], a4, fun j hj d => ?_, a5, a6⟩⟩
        by_cases e : j = i
        · rw [e]; exact a3 d
        · exact hno j (by omega) d
      have stopB : ∀ (c : Nat) (T2 : qv_St), fcN S T2 → T2.1 7 8 = 0 → isBad (tk B L) (tvn B L) (smN B L) i c → okk ((fX4_refuse T2 (nI c) (nI i)).bind fun S_5 => self S_5 (nI (hdT (tk B L) i)) (nI (i + 1))) (fun Z => ∃ c i, wS (tk B L) (tvn B L) (smN B L) (nT B L) c i ∧ c ≤ 5 ∧ Z.1 7 8 = nI c ∧ (c ≠ 0 → Z.1 7 7 = nI i) ∧ fcN S Z) := by
        intro c T2 a1 a2 a3
        have hc := bad_c a3
        refine ok_bd (refT a2) ?_
        rintro Z ⟨z1, z2, z3, z4, z5⟩
        exact ih 0 _ _ _ (by omega) ⟨fcN_trans a1 ⟨z3, fun k _ k7 k8 => z4 k k7 k8, fun q _ => by rw [z5]⟩, Or.inr ⟨c, i, by omega, by omega, Or.inr ⟨a3, by omega, hno⟩, z1, z2⟩⟩
      refine ok_jj (fun (K1 : qv_St → Int32 → Option qv_St) => K1 = fun S_3 x => self S_3 x (nI (i + 1))) rfl ?_
      rintro K1 rfl
      refine ok_if (fun g5 => ?_) (fun g5 => ?_)
      · have g5 := (lit 59 (by decide)).mp g5
        simp only [qb_e]
        obtain ⟨m1, m2⟩ := nmA_skip tn (by omega)
        refine ih (402 - (i + 1)) _ _ _ (by omega) ⟨hf, Or.inl ⟨i + 1, rfl, by omega, rfl, by rw [hdT, if_pos g5], t8, fun j hj d => ?_, by rw [m2]; exact t2, m1⟩⟩
        by_cases e : j = i
        · rw [e]; exact not_bad (by omega) (by omega) d
        · exact hno j (by omega) d
      · have g5 : tk B L i ≠ 59 := fun z => g5 ((lit 59 (by decide)).mpr z)
        simp only [qj_e]
        refine ok_if (fun g22 => ?_) (fun g22 => ?_)
        · have g22 := (lit 22 (by decide)).mp g22
          obtain ⟨v, v1, v2, v3⟩ := valueAtC htT (i := i) (by omega)
          rw [v1, Option.bind_some, v3 g22]
          have hlt : nN (tk B L) i < 18 := by
            have q1 : nN (tk B L) (i + 1) = nN (tk B L) i + 1 := by rw [nN, if_pos g22]
            have q3 := nN_mono (K := tk B L) (i := i + 1) (nT B L - (i + 1))
            rw [show i + 1 + (nT B L - (i + 1)) = nT B L by omega] at q3
            omega
          refine ok_cm (newC t2 hlt) ?_
          rintro T2 r (⟨r1, r2, j, r3, r4⟩ | ⟨r1, r2, r3, r4, r5, r6, r7, r8⟩)
          · have r1 : r = 0 := r1
            have r2 : T2 = T := r2
            subst r1
            subst r2
            refine ok_pos rfl (stopB 3 T2 hf t8 (Or.inl ⟨rfl, g22, ?_⟩))
            obtain ⟨i', q1, q3, q4⟩ := tn.1 j r3
            exact ⟨i', q1, q3, (smN_iff (b := 32) (by decide) (by decide) hL hp q3 g22).mp (q4.symm.trans r4)⟩
          · have r1 : r = 1 := r1
            subst r1
            refine ok_neg (by decide) (ok_neg (show ¬ nI (tk B L i) = 23 by rw [g22]; decide) ?_)
            obtain ⟨m1, m2⟩ := nmA_push tn g22 r4 r5
            refine next T2 (fcN_trans hf ⟨r7, fun k k2 _ _ => r8 k k2, r6⟩) g5 (fun d hd => ?_) ?_ ?_ m1
            · rcases hd with ⟨_, _, i', q1, q3, q4⟩ | hd
              · obtain ⟨j, j1, j2⟩ := tn.2 i' q1 q3
                exact r2 j j1 (j2.trans ((smN_iff (b := 32) (by decide) (by decide) hL hp q3 g22).mpr q4))
              · have := hd.2.1; omega
            · exact (r8 8 (by decide)).trans t8
            · rw [m2]; exact r3
        · have g22 : tk B L i ≠ 22 := fun z => g22 ((lit 22 (by decide)).mpr z)
          obtain ⟨m1, m2⟩ := nmA_skip tn g22
          refine ok_if (fun g23 => ?_) (fun g23 => ?_)
          · have g23 := (lit 23 (by decide)).mp g23
            have hv := tvn_lt hL hp i
            have hkh := kOK_lt (tk_ok (B := B) (L := L) (i := hdT (tk B L) i))
            rw [kindAtC htT (by omega), Option.bind_some, intC htT (by omega) hL hp g23, Option.bind_some, pk_sub hdle]
            refine ok_bd (fitsC (by omega) (by omega) (by omega)) ?_
            rintro r (⟨r1, r2⟩ | ⟨r1, r2⟩)
            · subst r1
              refine ok_neg (by decide) (next T hf g5 (fun d hd => ?_) t8 (by rw [m2]; exact t2) m1)
              rcases hd with hd | hd
              · exact g22 hd.2.1
              · exact hd.2.2 r2
            · subst r1
              exact ok_pos rfl (stopB 5 T hf t8 (Or.inr ⟨rfl, g23, r2⟩))
          · have g23 : tk B L i ≠ 23 := fun z => g23 ((lit 23 (by decide)).mpr z)
            exact next T hf g5 (not_bad g22 g23) t8 (by rw [m2]; exact t2) m1
  · have fin : okk (some T) (fun Z => ∃ c i, wS (tk B L) (tvn B L) (smN B L) (nT B L) c i ∧ c ≤ 5 ∧ Z.1 7 8 = nI c ∧ (c ≠ 0 → Z.1 7 7 = nI i) ∧ fcN S Z) := ok_s ⟨c, i, hw, c5, t8, fun _ => t7, hf⟩
    refine ok_if (fun _ => fin) (fun _ => ok_neg ?_ fin)
    rw [t8]
    exact nI_ne0 (by omega) (by omega)
