/-! the reference's laws: the whole -/
def fmW (sd c b a : Nat) (S Z : qv_St) : Prop := (∀ q, q ≠ 0 → (q < 24 ∨ 33 < q) → Z.1 q = S.1 q) ∧ (∀ q, q = 24 ∨ q = 25 → ∀ j, j ≠ a → Z.1 q j = S.1 q j) ∧ (∀ q, 26 ≤ q → q ≤ 30 → ∀ j, (j < b ∨ 130 * sd + 130 ≤ j) → Z.1 q j = S.1 q j) ∧ (∀ k, k ≠ 11 → k ≠ 12 → k ≠ 13 → k ≠ 14 → k ≠ 39 → k ≠ 45 → k ≠ 49 → Z.1 0 k = S.1 0 k) ∧ Z.2 = S.2 ∧ (∀ j, (j < c ∨ 420 * sd + 420 ≤ j) → Z.1 31 j = S.1 31 j ∧ Z.1 32 j = S.1 32 j)
theorem fmW_T {sd c b a : Nat} {S Z : qv_St} (h : fmT sd c b S Z) : fmW sd c b a S Z := ⟨fun q q1 q3 => h.1 q q1 (by omega), fun q q1 j _ => by rw [h.1 q (by omega) (by omega)], h.2.1, h.2.2.1, h.2.2.2.1, h.2.2.2.2⟩
theorem fmW_PT {sd c b a : Nat} {S T Z : qv_St} (h : fmP S T) (g : fmW sd c b a T Z) : fmW sd c b a S Z := ⟨fun q q1 q3 => (g.1 q q1 q3).trans (by rw [h.1 q q1]), fun q q1 j j1 => (g.2.1 q q1 j j1).trans (by rw [h.1 q (by omega)]), fun q q1 q3 j j1 => (g.2.2.1 q q1 q3 j j1).trans (by rw [h.1 q (by omega)]), fun k a1 a2 a3 a4 a5 a6 a7 => (g.2.2.2.1 k a1 a2 a3 a4 a5 a6 a7).trans (h.2.1 k a1 a3 a4), g.2.2.2.2.1.trans h.2.2, fun j hj => by rw [(g.2.2.2.2.2 j hj).1, (g.2.2.2.2.2 j hj).2, h.1 31 (by decide), h.1 32 (by decide)]; exact ⟨rfl, rfl⟩⟩
def lwQ (B : Nat → Nat) (L sd c0 b0 a : Nat) (S : qv_St) (R : pst × List lwB) (Z : qv_St) : Prop :=
  lM B L R.1 Z ∧ fmW sd c0 b0 a S Z ∧ (R.1.2.1 = 0 → Z.1 24 a = nI b0 ∧ Z.1 25 a = nI (b0 + R.2.length) ∧ brsAt Z.1 b0 R.2 ∧ R.2 ≠ [] ∧ Z.1 0 12 = 0 ∧ Z.1 0 39 = nI (b0 + R.2.length) ∧ 4 * (b0 + R.2.length) ≤ 520 * sd + R.1.1 ∧ ∃ c, Z.1 0 45 = nI c ∧ c0 ≤ c ∧ c ≤ 420 * sd + R.1.1 ∧ brU Z.1 b0 R.2.length c)
/-- where the walk of a law stands -/
def lwI (B : Nat → Nat) (L sd c0 b0 : Nat) (S : qv_St) (q : pst) (acc : List lwB) (b c : Nat) (T : qv_St) : Prop :=
  lM B L q T ∧ qW B L q ∧ fmT sd c0 b0 S T ∧ T.1 0 39 = nI b ∧ b0 ≤ b ∧ b ≤ 130 * sd + 110 ∧ c0 ≤ c ∧ (q.2.1 = 0 → T.1 0 12 = 0 ∧ T.1 0 45 = nI c ∧ c ≤ 420 * sd + q.1 ∧ 4 * b + 2 ≤ 520 * sd + q.1 ∧ b = b0 + acc.length ∧ brsAt T.1 b0 acc ∧ brU T.1 b0 acc.length c)
theorem lawK1 {B : Nat → Nat} {L sd c0 b0 k b c : Nat} {S T : qv_St} {q : pst} {acc : List lwB} {R : pst × List lwB} (hV : ∀ i, tvn B L i < 2 ^ 31) (ht : tkM' B L S) (hsd : sd ≤ 1) (h19 : S.1 0 19 = nI sd) (hk : k < 3) (hb0 : 130 * sd ≤ b0) (hc0 : 420 * sd ≤ c0) (hI : lwI B L sd c0 b0 S q acc b c T) (hR1 : sOnly (tk B L) 59 (sX (tk B L) (tvn B L) q).1 = R.1) (hR2 : R.1.2.1 = 0 → R.2 = acc ++ [(none, (sX (tk B L) (tvn B L) q).2)]) :
    okk (qv_ck (T.1 0 39) 260 <| qv_b (qv_si T 26 (Int32.toNatClampNeg (T.1 0 39)) (vp_nar .boolean 0)) fun S_3 => (fX12_term S_3).bind fun S_4 => (fX12_must S_4 4).bind fun S_5 =>
    if (S_5.1 0 13) ≤ 0 then
      qv_ck ((3 * (S_5.1 0 19)) + nI k) 6 <| qv_b (qv_si S_5 24 (Int32.toNatClampNeg ((3 * (S_5.1 0 19)) + nI k)) (nI b0)) fun S_6 =>
      qv_ck ((3 * (S_6.1 0 19)) + nI k) 6 <| qv_b (qv_si S_6 25 (Int32.toNatClampNeg ((3 * (S_6.1 0 19)) + nI k)) (S_6.1 0 39)) fun S_7 =>
      some S_7
    else
      some S_5) (fun Z => lwQ B L sd c0 b0 (3 * sd + k) S R Z) := by
  obtain ⟨hl, hw, hf, h39, hb1, hb2, hcc, hok⟩ := hI
  rw [h39]
  refine ok_ck b rfl (by omega) (by decide) ?_
  rw [qi_cl (by omega)]
  refine ok_b (fun X => X = qv_si T 26 b 0) rfl ?_
  rintro X hX
  have xl : lM B L q X := by rw [hX]; exact lM_si hl (Or.inl (by decide))
  have xf : fmT sd c b T X := by rw [hX]; exact fmT_si (by decide) (by decide) (Nat.le_refl _) (by omega)
  have x0 : X.1 0 = T.1 0 := by rw [hX, qs_si, qs_ne (by decide)]
  have x26 : X.1 26 b = 0 := by rw [hX, qs_si, qs_eq, upd_eq]
  clear hX
  have hfX := fmT_trans hf xf hcc hb1
  refine ok_bd (termX (c := c) (b := b) hV xl hw (fmT_tk ht hfX) hsd (by rw [x0]; exact h39) (by omega) (by omega) (fun z => by rw [x0]; exact ⟨(hok z).1, (hok z).2.1, (hok z).2.2.1⟩)) ?_
  rintro Y ⟨yl, yf, y39, y26, yok⟩
  have hfY := fmT_trans hfX yf hcc hb1
  refine ok_bd (mustL (k := 59) yl (sX_q hV hw) (fmT_tk ht hfY) rfl) ?_
  rintro U ⟨ul, uf⟩
  rw [hR1] at ul
  have hfU := fmT_trans hfY (fmT_P (c := c) (b := b) uf) hcc hb1
  have hwR : pWf R.1 := by rw [← hR1]; exact sOnly_wf (sX_wf hw.1)
  have h5 := hwR.2
  by_cases g : R.1.2.1 = 0
  · refine ok_pos (by rw [ul.1, g]; decide) ?_
    have e19 : U.1 0 19 = nI sd := by rw [hfU.2.2.1 19 (by decide) (by decide) (by decide) (by decide) (by decide) (by decide) (by decide)]; exact h19
    have hix : 3 * nI sd + nI k = nI (3 * sd + k) := by rw [show (3 : Int32) = nI 3 from rfl, pk_mul, nI_add]
    rw [e19, hix]
    refine ok_ck _ rfl (by omega) (by decide) ?_
    rw [qi_cl (by omega)]
    refine ok_b (fun W => W = qv_si U 24 (3 * sd + k) (nI b0)) rfl ?_
    rintro W hW
    have w0 : W.1 0 = U.1 0 := by rw [hW, qs_si, qs_ne (by decide)]
    rw [w0, e19, hix]
    refine ok_ck _ rfl (by omega) (by decide) ?_
    rw [qi_cl (by omega)]
    have u39 : U.1 0 39 = nI (b + 1) := by rw [uf.2.1 39 (by decide) (by decide) (by decide)]; exact y39
    rw [u39]
    refine ok_b (fun Z => Z = qv_si W 25 (3 * sd + k) (nI (b + 1))) rfl ?_
    rintro Z hZ
    have zq : ∀ r, r ≠ 24 → r ≠ 25 → Z.1 r = U.1 r := fun r r1 r3 => by rw [hZ, qs_si, qs_ne r3, hW, qs_si, qs_ne r1]
    have z24 : Z.1 24 = upd (U.1 24) (3 * sd + k) (nI b0) := by rw [hZ, qs_si, qs_ne (by decide), hW, qs_si, qs_eq]
    have z25 : Z.1 25 = upd (U.1 25) (3 * sd + k) (nI (b + 1)) := by rw [hZ, qs_si, qs_eq, hW, qs_si, qs_ne (by decide)]
    have z2 : Z.2 = U.2 := by rw [hZ, hW]; rfl
    clear hZ hW
    have hR1' := hR1
    have gg : (sOnly (tk B L) 59 (sX (tk B L) (tvn B L) q).1).2.1 = 0 := by rw [hR1]; exact g
    obtain ⟨g1, _, g3, g4⟩ := sOnly_ok gg
    rw [hR1] at g4
    obtain ⟨q0, _, q3, q4, q5, q6, _⟩ := sX_ok hV hw.1.1 g1
    obtain ⟨o12, o45, oc, ob, obl, obr, obu⟩ := hok q0
    obtain ⟨y12, ycd, y29, y30⟩ := yok g1
    have r11 : R.1.1 = (sX (tk B L) (tvn B L) q).1.1 + 1 := by rw [g4]
    have hlen : R.2.length = acc.length + 1 := by rw [hR2 g, List.length_append]; rfl
    have frU : fmT sd c b T U := fmT_trans (fmT_trans xf yf (Nat.le_refl _) (Nat.le_refl _)) (fmT_P (c := c) (b := b) uf) (Nat.le_refl _) (Nat.le_refl _)
    have hbr : brsAt Z.1 b0 acc ∧ brU Z.1 b0 acc.length c := by
      refine grow_brs obl.symm (by omega) (fun r r1 r3 j hj => ?_) (fun j hj => ?_) obr obu
      · rw [zq r (by omega) (by omega)]; exact frU.2.1 r r1 r3 j (Or.inl hj)
      · rw [zq 31 (by decide) (by decide), zq 32 (by decide) (by decide)]; exact frU.2.2.2.2 j (Or.inl hj)
    have b130 : b / 130 = sd := by omega
    have hbA : brAt Z.1 (b0 + acc.length) (none, (sX (tk B L) (tvn B L) q).2) := by
      rw [← obl]
      refine ⟨?_, c, ?_, ?_, ⟨by omega, by omega, by omega⟩, ?_⟩
      · rw [zq 26 (by decide) (by decide), uf.1 26 (by decide), y26 26 (by decide) (by decide)]; exact x26
      · rw [zq 29 (by decide) (by decide), uf.1 29 (by decide)]; exact y29
      · rw [zq 30 (by decide) (by decide), uf.1 30 (by decide)]; exact y30
      · rw [zq 31 (by decide) (by decide), zq 32 (by decide) (by decide), uf.1 31 (by decide), uf.1 32 (by decide)]; exact ycd.2
    refine ok_s ⟨lM_fr ul (by rw [zq 0 (by decide) (by decide)]) (by rw [zq 0 (by decide) (by decide)]) (by rw [zq 0 (by decide) (by decide)]), ⟨fun r r1 r3 => ?_, fun r r1 j j1 => ?_, fun r r1 r3 j j1 => ?_, fun j a1 a2 a3 a4 a5 a6 a7 => ?_, ?_, fun j j1 => ?_⟩, fun _ => ⟨?_, ?_, ?_, ?_, ?_, ?_, ?_, c + (sX (tk B L) (tvn B L) q).2.length, ?_, ?_, ?_, ?_⟩⟩
    · rw [zq r (by omega) (by omega)]; exact hfU.1 r r1 (by omega)
    · rcases r1 with rfl | rfl
      · rw [z24, upd_ne j1, hfU.1 24 (by decide) (by decide)]
      · rw [z25, upd_ne j1, hfU.1 25 (by decide) (by decide)]
    · rw [zq r (by omega) (by omega)]; exact hfU.2.1 r r1 r3 j j1
    · rw [zq 0 (by decide) (by decide)]; exact hfU.2.2.1 j a1 a2 a3 a4 a5 a6 a7
    · rw [z2]; exact hfU.2.2.2.1
    · rw [zq 31 (by decide) (by decide), zq 32 (by decide) (by decide)]; exact hfU.2.2.2.2 j j1
    · rw [z24, upd_eq]
    · rw [z25, upd_eq, hlen, obl]; rfl
    · rw [hR2 g]; exact brsAt_app acc b0 hbr.1 hbA
    · rw [hR2 g]; intro z; have := congrArg List.length z; rw [List.length_append] at this; exact absurd this (Nat.succ_ne_zero _)
    · rw [zq 0 (by decide) (by decide), uf.2.1 12 (by decide) (by decide) (by decide)]; exact y12
    · rw [zq 0 (by decide) (by decide), u39, hlen, obl]; rfl
    · rw [hlen]; omega
    · rw [zq 0 (by decide) (by decide), uf.2.1 45 (by decide) (by decide) (by decide)]; exact ycd.1
    · omega
    · omega
    · intro j j1 j2
      rw [hlen] at j2
      by_cases e : j = b
      · exact ⟨_, Nat.le_refl _, by rw [e, zq 30 (by decide) (by decide), uf.1 30 (by decide)]; exact y30⟩
      · obtain ⟨y, v1, v2⟩ := hbr.2 j j1 (by omega)
        exact ⟨y, by omega, v2⟩
  · refine ok_neg (by rw [ul.1]; exact nI_nle (by omega) (by omega)) (ok_s ⟨ul, fmW_T hfU, fun z => absurd z g⟩)
