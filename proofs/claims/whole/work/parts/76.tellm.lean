/-! the reference's TELLS: numbers, names, what is wrong -/
def fmB (S Z : qv_St) : Prop := (∀ q, q ≠ 0 → Z.1 q = S.1 q) ∧ (∀ k, k ≠ 11 → k ≠ 13 → k ≠ 14 → k ≠ 15 → k ≠ 16 → Z.1 0 k = S.1 0 k) ∧ Z.2 = S.2
theorem fmB_rfl {S : qv_St} : fmB S S := ⟨fun _ _ => rfl, fun _ _ _ _ _ _ => rfl, rfl⟩
theorem fmB_trans {S T U : qv_St} (h : fmB S T) (g : fmB T U) : fmB S U := ⟨fun q a => (g.1 q a).trans (h.1 q a), fun k a b c d e => (g.2.1 k a b c d e).trans (h.2.1 k a b c d e), g.2.2.trans h.2.2⟩
theorem fmB_P {S T : qv_St} (h : fmP S T) : fmB S T := ⟨h.1, fun k a b c _ _ => h.2.1 k a b c, h.2.2⟩
theorem fmB_tk {B : Nat → Nat} {L : Nat} {S Z : qv_St} (h : tkM' B L S) (g : fmB S Z) : tkM' B L Z := tkM_fr h (g.1 3 (by decide)) (g.1 4 (by decide)) (g.1 5 (by decide)) (by rw [g.2.2])
def wM (B : Nat → Nat) (L t : Nat) (S : qv_St) : Prop := ∃ c i, wS (tk B L) (tvn B L) (smN B L) t c i ∧ c ≤ 5 ∧ S.1 0 15 = nI c ∧ (c ≠ 0 → S.1 0 16 = nI (tp B L i))
theorem wM_fr {B : Nat → Nat} {L t : Nat} {S Z : qv_St} (h : wM B L t S) (h1 : Z.1 0 15 = S.1 0 15) (h2 : Z.1 0 16 = S.1 0 16) : wM B L t Z := by
  unfold wM at h ⊢
  rw [h1, h2]
  exact h
theorem wM_P {B : Nat → Nat} {L t : Nat} {S Z : qv_St} (h : wM B L t S) (g : fmP S Z) : wM B L t Z := wM_fr h (g.2.1 15 (by decide) (by decide) (by decide)) (g.2.1 16 (by decide) (by decide) (by decide))
theorem wM_skip {B : Nat → Nat} {L t : Nat} {S : qv_St} (h : wM B L t S) (hn : ∀ d, ¬ isBad (tk B L) (tvn B L) (smN B L) t d) : wM B L (t + 1) S := by
  obtain ⟨c, i, h1, h2⟩ := h
  exact ⟨c, i, wS_skip h1 hn, h2⟩
theorem tp_31 {B : Nat → Nat} {L i : Nat} (hL : L ≤ 2000) (hp : ∀ i, i < nT B L → ps B L i < L) : tp B L i ≤ 2000 := by
  unfold tp
  split
  · have := hp i (by assumption); omega
  · exact hL
/-- something is wrong at a token (told once, or again) -/
theorem wrongM {B : Nat → Nat} {L k t : Nat} {p : pst} {S : qv_St} (hL : L ≤ 2000) (hp : ∀ i, i < nT B L → ps B L i < L) (ht : tkM' B L S) (hl : lM B L p S) (h0 : p.2.1 = 0) (hn : t < nT B L) (h4 : t ≤ 400) (hb : isBad (tk B L) (tvn B L) (smN B L) t k) (hw : wM B L t S ∨ wM B L (t + 1) S) : okk (fX12_wrong S (nI k) (nI t)) (fun Z => wM B L (t + 1) Z ∧ lM B L p Z ∧ fmB S Z) := by
  have hk := bad_c hb
  have e4 := (kindM ht (by omega : t ≤ nT B L) h4).2
  unfold fX12_wrong
  refine ok_ck t rfl (by omega) (by decide) ?_
  rw [qi_cl (by omega), e4]
  simp only [qj_e, qb_e]
  refine ok_neg (by rw [hl.1, h0]; decide) ?_
  have hw1 : ∃ c i, c ≤ 5 ∧ S.1 0 15 = nI c ∧ (c ≠ 0 → S.1 0 16 = nI (tp B L i)) ∧ ((c = 0 ∧ wS (tk B L) (tvn B L) (smN B L) (t + 1) k t) ∨ (c ≠ 0 ∧ wS (tk B L) (tvn B L) (smN B L) (t + 1) c i ∧ i ≤ t ∧ (i = t → c = k))) := by
    rcases hw with ⟨c, i, w1, w2, w3, w4⟩ | ⟨c, i, w1, w2, w3, w4⟩
    · by_cases c0 : c = 0
      · subst c0
        exact ⟨0, i, w2, w3, w4, Or.inl ⟨rfl, wS_bad w1 hb⟩⟩
      · refine ⟨c, i, w2, w3, w4, Or.inr ⟨c0, wS_keep w1 c0 (by omega), ?_, fun z => ?_⟩⟩
        · rcases w1 with w1 | w1
          · exact absurd w1.1 c0
          · omega
        · rcases w1 with w1 | w1
          · exact absurd w1.1 c0
          · omega
    · by_cases c0 : c = 0
      · exfalso
        rcases w1 with w1 | w1
        · exact w1.2 t (by omega) k hb
        · have := bad_c w1.1; omega
      · refine ⟨c, i, w2, w3, w4, Or.inr ⟨c0, w1, ?_, fun z => ?_⟩⟩
        · rcases w1 with w1 | w1
          · exact absurd w1.1 c0
          · omega
        · rcases w1 with w1 | w1
          · exact absurd w1.1 c0
          · have w1 := w1.1
            rw [z] at w1
            rcases w1 with ⟨a1, a2, _⟩ | ⟨a1, a2, _⟩
            · rcases hb with ⟨b1, b2, _⟩ | ⟨b1, b2, _⟩
              · omega
              · omega
            · rcases hb with ⟨b1, b2, _⟩ | ⟨b1, b2, _⟩
              · omega
              · omega
  obtain ⟨c, i, w2, w3, w4, hc⟩ := hw1
  have keep : c ≠ 0 → okk (some S) (fun Z => wM B L (t + 1) Z ∧ lM B L p Z ∧ fmB S Z) := by
    intro c0
    rcases hc with hc | hc
    · exact absurd hc.1 c0
    · exact ok_s ⟨⟨c, i, hc.2.1, w2, w3, w4⟩, hl, fmB_rfl⟩
  rw [w3]
  by_cases c0 : c = 0
  · refine ok_pos (by rw [c0]; rfl) (ok_s ⟨⟨k, t, ?_, by omega, ?_, fun _ => ?_⟩, ?_, fun q hq => ?_, fun j j1 j2 j3 j4 j5 => ?_, rfl⟩)
    · rcases hc with hc | hc
      · exact hc.2
      · exact absurd c0 hc.1
    · rw [qs_si, qs_eq, upd_ne (by decide), qs_si, qs_eq, upd_eq]
    · rw [qs_si, qs_eq, upd_eq]
    · exact lM_si (lM_si hl (Or.inr (by decide))) (Or.inr (by decide))
    · rw [qs_si, qs_ne hq, qs_si, qs_ne hq]
    · rw [qs_si, qs_eq, upd_ne j5, qs_si, qs_eq, upd_ne j4]
  · refine ok_neg (nI_ne0 (by omega) (by omega)) ?_
    rw [w4 c0]
    have hti := tp_31 (i := i) hL hp
    have htt := tp_31 (i := t) hL hp
    refine ok_if (fun _ => keep c0) (fun g => ?_)
    have g : ¬ tp B L i < tp B L t := fun z => g (nI_lt z (by omega))
    rcases hc with hc | hc
    · exact absurd hc.1 c0
    · have e : i = t := by
        rcases Nat.lt_or_ge i t with z | z
        · exact absurd (tp_lt hL hp z hn) g
        · omega
      rw [e]
      refine ok_pos rfl (ok_neg ?_ (keep c0))
      rw [hc.2.2.2 e]
      exact nI_nlt (Nat.le_refl _) (by omega)
theorem boundedM {B : Nat → Nat} {L a b : Nat} {p : pst} {S : qv_St} (hL : L ≤ 2000) (hp : ∀ i, i < nT B L → ps B L i < L) (hl : lM B L p S) (hw : qW B L p) (ht : tkM' B L S) (ha : a < 2 ^ 31) (hb : b < 2 ^ 31) (hwm : p.2.1 = 0 → wM B L p.1 S) (hfit : p.2.1 = 0 → tk B L p.1 = 23 → ((a ≤ tvn B L p.1 ∧ tvn B L p.1 ≤ b) ↔ fitP (tk B L (hdT (tk B L) p.1)) (p.1 - hdT (tk B L) p.1) (tvn B L p.1))) :
    okk (fX12_bounded S (nI a) (nI b)) (fun z => lM B L (sOnly (tk B L) 23 p) z.1 ∧ fmB S z.1 ∧ ((sOnly (tk B L) 23 p).2.1 = 0 → z.2 = nI (tvn B L p.1) ∧ wM B L (p.1 + 1) z.1)) := by
  have h5 := hw.1.2
  unfold fX12_bounded
  by_cases h0 : p.2.1 = 0
  · have h4 := hw.1.1
    obtain ⟨b2, e2, y2, n2⟩ : ∃ b, fX12_is S 2 = some b ∧ (tk B L p.1 = 23 → b = 1) ∧ (tk B L p.1 ≠ 23 → b = 0) := isVal (k := 23) (lM_z hl h0) ⟨⟨h4, Nat.zero_le _⟩, fun _ => hw.2 h0⟩ ht rfl
    simp only [qj_e]
    refine ok_neg (by rw [hl.1, h0]; decide) ?_
    rw [e2, Option.bind_some]
    by_cases g : tk B L p.1 = 23
    · rw [y2 g]
      refine ok_neg (by decide) ?_
      rw [hl.2.1 h0]
      refine ok_ck _ rfl (by omega) (by decide) ?_
      rw [qi_cl (by omega), valM ht g]
      simp only [qb_e]
      have hv := tvn_lt hL hp p.1
      have hin := (tk_in (B := B) (L := L) (i := p.1) (by omega)).1
      have eo : sOnly (tk B L) 23 p = sPass p := by unfold sOnly; rw [if_pos h0, if_pos g]
      rw [eo]
      have fin : ∀ T, lM B L p T → fmB S T → wM B L (p.1 + 1) T → okk ((fX12_goesOn T).bind fun S_3 => some (S_3, nI (tvn B L p.1))) (fun z => lM B L (sPass p) z.1 ∧ fmB S z.1 ∧ ((sPass p).2.1 = 0 → z.2 = nI (tvn B L p.1) ∧ wM B L (p.1 + 1) z.1)) := by
        intro T t1 t2 t3
        refine ok_bd (goesL t1 hw (fmB_tk ht t2)) ?_
        rintro Z ⟨z1, z2⟩
        exact ok_s ⟨z1, fmB_trans t2 (fmB_P z2), fun _ => ⟨rfl, wM_P t3 z2⟩⟩
      have bad : ¬ fitP (tk B L (hdT (tk B L) p.1)) (p.1 - hdT (tk B L) p.1) (tvn B L p.1) → okk ((fX12_wrong S 5 (nI p.1)).bind fun S_4 => (fX12_goesOn S_4).bind fun S_3 => some (S_3, nI (tvn B L p.1))) (fun z => lM B L (sPass p) z.1 ∧ fmB S z.1 ∧ ((sPass p).2.1 = 0 → z.2 = nI (tvn B L p.1) ∧ wM B L (p.1 + 1) z.1)) := by
        intro hnf
        refine ok_bd (wrongM (k := 5) hL hp ht hl h0 hin h4 (Or.inr ⟨rfl, g, hnf⟩) (Or.inl (hwm h0))) ?_
        rintro T ⟨t1, t2, t3⟩
        exact fin T t2 t3 t1
      have hf := hfit h0 g
      refine ok_if (fun g1 => ?_) (fun g1 => ?_)
      · have g1 := (nI_ltI (by omega) ha).mp g1
        exact bad (fun z => by have := hf.mpr z; omega)
      · have g1 : ¬ tvn B L p.1 < a := fun z => g1 (nI_lt z ha)
        refine ok_if (fun g2 => ?_) (fun g2 => ?_)
        · have g2 := (nI_leI (by omega) hb).mp g2
          refine fin S hl fmB_rfl (wM_skip (hwm h0) (fun d hd => ?_))
          rcases hd with hd | hd
          · have := hd.2.1; omega
          · exact hd.2.2 (hf.mp ⟨by omega, g2⟩)
        · have g2 : ¬ tvn B L p.1 ≤ b := fun z => g2 (nI_le z hb)
          exact bad (fun z => g2 (hf.mpr z).2)
    · rw [n2 g]
      refine ok_pos rfl (ok_bd (failL 1 hl hw ht) ?_)
      rintro Z ⟨z1, z2⟩
      have eo : sOnly (tk B L) 23 p = sRef 1 p := by unfold sOnly; rw [if_pos h0, if_neg g]
      rw [eo]
      exact ok_s ⟨z1, fmB_P z2, fun z => absurd z (sRef_ok (by decide))⟩
  · simp only [qj_e]
    rw [sOnly_f h0]
    refine ok_pos (by rw [hl.1]; exact nI_lt (a := 0) (by omega) (by omega)) ?_
    rw [failB hl h0 h5, Option.bind_some]
    exact ok_s ⟨hl, fmB_rfl, fun z => absurd z h0⟩
/-- a name: told already? -/
theorem namedM {B : Nat → Nat} {L t : Nat} {S : qv_St} (hL : L ≤ 2000) (hp : ∀ i, i < nT B L → ps B L i < L) (hl : lM B L (t, 0, 0) S) (h4 : t ≤ 400) (hn : t ≤ nT B L) (ht : tkM' B L S) (hwm : wM B L t S) (h20 : S.1 0 20 = nI (nN (tk B L) t)) (hnn : nN (tk B L) t ≤ 18) (hna : nmA B L 27 t (S.2 8)) :
    okk (fX12_named S) (fun z => z.2 = nI t ∧ lM B L (sOnly (tk B L) 22 (t, 0, 0)) z.1 ∧ fmB S z.1 ∧ ((sOnly (tk B L) 22 (t, 0, 0)).2.1 = 0 → wM B L (t + 1) z.1)) := by
  have hq : qW B L (t, 0, 0) := ⟨⟨h4, Nat.zero_le _⟩, fun _ => hn⟩
  unfold fX12_named
  have hN5 := qN
  generalize qv_N = N at hN5 ⊢
  refine ok_b (fun x => x = nI t) (hl.2.1 rfl) ?_
  rintro x1 rfl
  refine ok_bd (mustL (k := 22) hl hq ht rfl) ?_
  rintro T ⟨t1, t2⟩
  have hqo := sOnly_q (k := 22) hq (by decide)
  have h5 := hqo.1.2
  by_cases g : (sOnly (tk B L) 22 (t, 0, 0)).2.1 = 0
  · obtain ⟨_, g2, _, _⟩ := sOnly_ok g
    have g2 : tk B L t = 22 := g2
    have hin := (tk_in (B := B) (L := L) (i := t) (by omega)).1
    refine ok_lp2 (fun m U x => ∃ j, m = 18 - j ∧ x = nI j ∧ j ≤ nN (tk B L) t ∧ lM B L (sOnly (tk B L) 22 (t, 0, 0)) U ∧ fmB S U ∧ ((wM B L t U ∧ ∀ i, i < j → S.2 8 i ≠ lN (cb 27 (tf B L t) (tr B L t))) ∨ wM B L (t + 1) U)) ?_ N 18 T 0 ⟨0, rfl, rfl, Nat.zero_le _, t1, fmB_P t2, Or.inl ⟨wM_P hwm t2, fun i hi => by omega⟩⟩ (by omega)
    rintro self m U x ⟨j, rfl, rfl, hj, ul, uf, uw⟩ ih
    have htU := fmB_tk ht uf
    rw [uf.2.1 20 (by decide) (by decide) (by decide) (by decide) (by decide), h20]
    refine ok_if (fun e => ?_) (fun e => ?_)
    · have e := (nI_leI (by omega) (by omega)).mp e
      refine ok_s ⟨rfl, ul, uf, fun _ => ?_⟩
      rcases uw with ⟨u1, u2⟩ | u1
      · refine wM_skip u1 (fun d hd => ?_)
        rcases hd with ⟨_, _, i', q1, q3, q4⟩ | hd
        · obtain ⟨j', j1, j2⟩ := hna.2 i' q1 q3
          exact u2 j' (by omega) (j2.trans ((smN_iff (b := 27) (by decide) (by decide) hL hp q3 g2).mpr q4))
        · have := hd.2.1; omega
      · exact u1
    · have e : ¬ nN (tk B L) t ≤ j := fun z => e ((nI_leI (by omega) (by omega)).mpr z)
      refine ok_pos (by rw [ul.1, g]; rfl) (ok_ck j rfl (by omega) (by decide) (ok_ck t rfl (by omega) (by decide) ?_))
      rw [qi_cl (by omega), qi_cl (by omega), nI_1]
      have s6 : U.2 6 t = lN (cb 27 (tf B L t) (tr B L t)) := (htU.1 t hin).2.2.2.2 ((tk_in (B := B) (L := L) (i := t) (by omega)).2.symm.trans g2)
      rw [s6, uf.2.2]
      simp only [qj_e]
      refine ok_if (fun e2 => ?_) (fun e2 => ?_)
      · have e2 := (lg_cmp_eq _ _).mp e2
        obtain ⟨i', q1, q3, q4⟩ := hna.1 j (by omega)
        have hbad : isBad (tk B L) (tvn B L) (smN B L) t 3 := Or.inl ⟨rfl, g2, i', q1, q3, (smN_iff (b := 27) (by decide) (by decide) hL hp q3 g2).mp (q4.symm.trans e2)⟩
        refine ok_bd (wrongM (k := 3) hL hp htU ul g hin h4 hbad (by rcases uw with u | u; exact Or.inl u.1; exact Or.inr u)) ?_
        rintro W ⟨w1, w2, w3⟩
        exact ih (18 - (j + 1)) _ _ (by omega) ⟨j + 1, rfl, rfl, by omega, w2, fmB_trans uf w3, Or.inr w1⟩
      · refine ih (18 - (j + 1)) _ _ (by omega) ⟨j + 1, rfl, rfl, by omega, ul, uf, ?_⟩
        rcases uw with ⟨u1, u2⟩ | u1
        · refine Or.inl ⟨u1, fun i hi => ?_⟩
          by_cases ei : i = j
          · rw [ei]; exact fun z => e2 ((lg_cmp_eq _ _).mpr z)
          · exact u2 i (by omega)
        · exact Or.inr u1
  · refine ok_lp2 (fun m U x => U = T) ?_ N 0 T 0 rfl (by omega)
    rintro self m U x rfl ih
    have fin : okk (some (U, nI t)) (fun z : qv_St × Int32 => z.2 = nI t ∧ lM B L (sOnly (tk B L) 22 (t, 0, 0)) z.1 ∧ fmB S z.1 ∧ ((sOnly (tk B L) 22 (t, 0, 0)).2.1 = 0 → wM B L (t + 1) z.1)) := ok_s ⟨rfl, t1, fmB_P t2, fun z => absurd z g⟩
    refine ok_if (fun _ => fin) (fun _ => ok_neg ?_ fin)
    rw [t1.1]
    exact nI_ne0 (by omega) (by omega)
/-- a TELL's end: its name is kept -/
theorem endsM {B : Nat → Nat} {L tn : Nat} {p : pst} {S : qv_St} (hl : lM B L p S) (hw : qW B L p) (ht : tkM' B L S) (hk : tk B L tn = 22) (ht4 : tn ≤ 400) (h20 : S.1 0 20 = nI (nN (tk B L) tn)) (hnn : nN (tk B L) tn < 18) (hna : nmA B L 27 tn (S.2 8)) :
    okk (fX12_ends S (nI tn)) (fun Z => lM B L (sOnly (tk B L) 59 p) Z ∧ (∀ q, q ≠ 0 → Z.1 q = S.1 q) ∧ (∀ k, k ≠ 11 → k ≠ 13 → k ≠ 14 → k ≠ 20 → Z.1 0 k = S.1 0 k) ∧ (∀ q, q ≠ 8 → Z.2 q = S.2 q) ∧ ((sOnly (tk B L) 59 p).2.1 = 0 → Z.1 0 20 = nI (nN (tk B L) (tn + 1)) ∧ nmA B L 27 (tn + 1) (Z.2 8))) := by
  unfold fX12_ends
  refine ok_bd (mustL (k := 59) hl hw ht rfl) ?_
  rintro T ⟨t1, t2⟩
  have h5 := (sOnly_wf (K := tk B L) (k := 59) hw.1).2
  by_cases g : (sOnly (tk B L) 59 p).2.1 = 0
  · refine ok_pos (by rw [t1.1, g]; decide) (ok_ck tn rfl (by omega) (by decide) ?_)
    rw [t2.2.1 20 (by decide) (by decide) (by decide), h20]
    refine ok_ck _ rfl hnn (by decide) ?_
    rw [qi_cl (by omega), qi_cl (by omega)]
    have hin := (tk_in (B := B) (L := L) (i := tn) (by omega)).1
    have htT := fmP_tk ht t2
    have s6 : T.2 6 tn = lN (cb 27 (tf B L tn) (tr B L tn)) := (htT.1 tn hin).2.2.2.2 ((tk_in (B := B) (L := L) (i := tn) (by omega)).2.symm.trans hk)
    rw [s6]
    simp only [qb_e]
    rw [sl_1, t2.2.1 20 (by decide) (by decide) (by decide), h20, nI_1]
    have hna2 : nmA B L 27 tn (T.2 8) := by rw [t2.2.2]; exact hna
    obtain ⟨m1, m2⟩ := nmA_push (A' := (qv_sl T 8 (nN (tk B L) tn) (lN (cb 27 (tf B L tn) (tr B L tn)))).2 8) hna2 hk sl_eq (fun j hj => sl_ne hj)
    refine ok_s ⟨?_, fun q hq => ?_, fun k k1 k2 k3 k4 => ?_, fun q hq => ?_, fun _ => ⟨?_, ?_⟩⟩
    · refine lM_si ?_ (Or.inr (by decide))
      exact lM_fr t1 rfl rfl rfl
    · rw [qs_si, qs_ne hq, sl_1]; exact t2.1 q hq
    · rw [qs_si, qs_eq, upd_ne k4, sl_1]; exact t2.2.1 k k1 k2 k3
    · show (qv_sl T 8 _ _).2 q = S.2 q
      rw [sl_nq hq, t2.2.2]
    · rw [qs_si, qs_eq, upd_eq, m2]
    · exact m1
  · refine ok_neg (by rw [t1.1]; exact nI_nle (by omega) (by omega)) (ok_s ⟨t1, t2.1, fun k k1 k2 k3 _ => t2.2.1 k k1 k2 k3, fun q _ => by rw [t2.2.2], fun z => absurd z g⟩)
