/-! the reference's E: the loops -/
theorem exprM {B : Nat → Nat} {L sd c0 t : Nat} {S : qv_St} (h : lM B L (t, 0, 0) S) (h4 : t ≤ 400) (hn : t ≤ nT B L) (ht : tkM' B L S) (hsd : sd ≤ 1) (h12 : S.1 0 12 = 0) (h45 : S.1 0 45 = nI c0) (hc0 : c0 ≤ 420 * sd + t) :
    okk (fX12_expression S) (fun Z => lM B L (eR (tk B L) (tvn B L) true [] [] t).1 Z ∧ fmE sd c0 S Z ∧ ((eR (tk B L) (tvn B L) true [] [] t).1.2.1 = 0 → Z.1 0 12 = 0 ∧ cds c0 (eR (tk B L) (tvn B L) true [] [] t).2 Z)) := by
  generalize hR : eR (tk B L) (tvn B L) true [] [] t = R
  unfold fX12_expression
  have hN5 := qN
  generalize qv_N = N at hN5 ⊢
  refine ok_b (fun X => X = qv_si S 0 49 0) rfl ?_
  rintro X0 hX0
  have hX12 : X0.1 0 12 = 0 := by rw [hX0, qs_si, qs_eq, upd_ne (by decide)]; exact h12
  have hcf0 : cfg B L sd c0 S [] [] t X0 := by
    rw [hX0]
    refine ⟨lM_fr h ?_ ?_ ?_, ⟨h4, hn⟩, ⟨⟨?_, trivial⟩, ?_, trivial⟩, ⟨trivial, Nat.zero_le _, ?_⟩, hc0, fmE_si (Or.inr rfl)⟩
    · rw [qs_si, qs_eq, upd_ne (by decide)]
    · rw [qs_si, qs_eq, upd_ne (by decide)]
    · rw [qs_si, qs_eq, upd_ne (by decide)]
    · rw [qs_si, qs_eq, upd_eq]; rfl
    · rw [qs_si, qs_eq, upd_ne (by decide)]; exact h45
    · rw [qs_si, qs_eq, upd_ne (by decide)]; exact h12
  clear hX0
  refine ok_b (fun x => x = 0) hX12 ?_
  rintro x1 rfl
  refine ok_jj (fun (K1 : qv_St → Option qv_St) => ∀ T, ((∃ st out t', cfg B L sd c0 S st out t' T ∧ eR (tk B L) (tvn B L) false st out t' = R ∧ ¬ isop (tk B L t') = true ∧ (tk B L t' = 41 → nO st = 0)) ∨ (bdS B L sd c0 S R T ∧ stX sd c0 T)) → okk (K1 T) (fun Z => lM B L R.1 Z ∧ fmE sd c0 S Z ∧ (R.1.2.1 = 0 → Z.1 0 12 = 0 ∧ cds c0 R.2 Z))) ?_ ?_
  · intro T hT
    simp only [qj_e]
    have fin : ∀ (U : qv_St) (st : List Nat) (out : lwC), lM B L R.1 U → fmE sd c0 S U → (R.1.2.1 = 0 → U.1 0 12 = 0 ∧ R.2 = out ++ popK 1 st) → stk st U → cds c0 out U → wst st → st.length ≤ 60 → c0 + out.length + nP st ≤ 420 * sd + 419 → okk ((fX12_comesOut U 0).bind fun S_4 => some S_4) (fun Z => lM B L R.1 Z ∧ fmE sd c0 S Z ∧ (R.1.2.1 = 0 → Z.1 0 12 = 0 ∧ cds c0 R.2 Z)) := by
      intro U st out a1 a2 a3 a4 a5 a6 a7 a8
      refine ok_bd (comesM (r := 1) a4 a5 a6 a7 hsd a8 (Or.inl ⟨rfl, rfl⟩)) ?_
      rintro Z ⟨z1, z2, z3⟩
      refine ok_s ⟨lM_fr a1 (z3.2.1 11 (by decide) (by decide)) (z3.2.1 13 (by decide) (by decide)) (z3.2.1 14 (by decide) (by decide)), fmE_trans a2 (fmE_K z3), fun z => ⟨?_, ?_⟩⟩
      · rw [z3.2.1 12 (by decide) (by decide)]; exact (a3 z).1
      · rw [(a3 z).2]; exact z2
    rcases hT with ⟨st, out, t', ⟨cl, ⟨c4, cn⟩, ⟨cs, cc⟩, ⟨cw, c6, c12⟩, cb_, cf⟩, eE, eop, e41⟩ | ⟨⟨b1, b2, b3, b4⟩, st, out, s1, s2, s3, s4, s5⟩
    · have hnp := st_bd st cw
      have htp := tpo_le st
      have h20 := st60 cw c6
      by_cases g0 : nO st = 0
      · rw [er_end c4 eop g0] at eE
        refine ok_pos (by rw [c12, g0]; decide) ?_
        refine fin T st out ?_ cf ?_ cs cc cw (by omega) (by omega)
        · rw [← eE]; exact cl
        · intro _; rw [← eE]; exact ⟨by rw [c12, g0]; rfl, rfl⟩
      · have g41 : tk B L t' ≠ 41 := fun z => g0 (e41 z)
        rw [er_bad c4 eop g41 g0] at eE
        refine ok_neg (by rw [c12]; exact nI_nle (by omega) (by omega)) ?_
        have hq : qW B L (t', 0, 0) := ⟨⟨c4, Nat.zero_le _⟩, fun _ => cn⟩
        refine ok_bd (failL 1 cl hq (fmE_tk ht cf)) ?_
        rintro U ⟨u1, u2⟩
        refine fin U st out ?_ (fmE_trans cf (fmE_P u2)) ?_ ⟨?_, ?_⟩ ⟨?_, ?_⟩ cw (by omega) (by omega)
        · rw [← eE]; exact u1
        · intro z; rw [← eE] at z; exact absurd z (by decide : (1 : Nat) ≠ 0)
        · rw [u2.2.1 49 (by decide) (by decide) (by decide)]; exact cs.1
        · rw [u2.1 33 (by decide)]; exact cs.2
        · rw [u2.2.1 45 (by decide) (by decide) (by decide)]; exact cc.1
        · rw [u2.1 31 (by decide), u2.1 32 (by decide)]; exact cc.2
    · have hfin := fin T st out b3 b4 (fun z => absurd z b1) s1 s2 s3 s4 s5
      refine ok_if (fun _ => hfin) (fun _ => ?_)
      rw [failB b3 b1 b2, Option.bind_some]
      exact hfin
  · intro K1 hK1
    refine ok_lp2 (fun n T x => (x = 1 ∧ ∃ st out t', n = 402 - t' ∧ cfg B L sd c0 S st out t' T ∧ eR (tk B L) (tvn B L) true st out t' = R) ∨ bdS B L sd c0 S R T) ?_ N (402 - t) X0 1 (Or.inl ⟨rfl, [], [], t, rfl, hcf0, hR⟩) (by omega)
    rintro self n T0 x hI ih
    have outB : ∀ T, bdS B L sd c0 S R T → (lM B L R.1 T ∧ fmE sd c0 S T ∧ (R.1.2.1 = 0 → T.1 0 12 = 0 ∧ cds c0 R.2 T)) := fun T hT => ⟨hT.2.2.1, hT.2.2.2, fun z => absurd z hT.1⟩
    rcases hI with ⟨rfl, st0, ou0, t0, rfl, hcf, hE0⟩ | hB0
    · refine ok_neg (by decide) (ok_pos hcf.1.1 ?_)
      refine ok_jj (fun (K3 : qv_St → Option qv_St) => ∀ T, ((∃ st out t', t0 ≤ t' ∧ cfg B L sd c0 S st out t' T ∧ eR (tk B L) (tvn B L) true st out t' = R ∧ tk B L t' ≠ 40) ∨ bdS B L sd c0 S R T) → okk (K3 T) (fun Z => lM B L R.1 Z ∧ fmE sd c0 S Z ∧ (R.1.2.1 = 0 → Z.1 0 12 = 0 ∧ cds c0 R.2 Z))) ?_ ?_
      · intro T hT
        rcases hT with ⟨st, out, t', tt, cf, eE, e40⟩ | hB
        · refine ok_bd (unitX ht hsd cf e40 eE) ?_
          rintro Z (⟨o, zc, ze⟩ | zb)
          · refine ok_pos (show Z.1 0 13 ≤ 0 by rw [show Z.1 0 13 = 0 from zc.1.1]; decide) ?_
            refine ok_jj (fun (K4 : qv_St → Option qv_St) => ∀ T, ((∃ st out t', t0 < t' ∧ cfg B L sd c0 S st out t' T ∧ eR (tk B L) (tvn B L) false st out t' = R ∧ (tk B L t' = 41 → nO st = 0)) ∨ (bdS B L sd c0 S R T ∧ stX sd c0 T)) → okk (K4 T) (fun Z => lM B L R.1 Z ∧ fmE sd c0 S Z ∧ (R.1.2.1 = 0 → Z.1 0 12 = 0 ∧ cds c0 R.2 Z))) ?_ ?_
            · intro U hU
              rcases hU with ⟨su, ou, tu, ut, uc, ue, u41⟩ | ⟨hB, hX⟩
              · obtain ⟨cl, ⟨c4, cn⟩, ⟨cs, cc⟩, ⟨cw, c6, c12⟩, cb_, cf⟩ := id uc
                have htU := fmE_tk ht cf
                have hq : qW B L (tu, 0, 0) := ⟨⟨c4, Nat.zero_le _⟩, fun _ => cn⟩
                obtain ⟨b8, e8, y8, n8⟩ : ∃ b, fX12_is U 8 = some b ∧ (tk B L tu = 43 → b = 1) ∧ (tk B L tu ≠ 43 → b = 0) := isVal (k := 43) cl hq htU rfl
                obtain ⟨b9, e9, y9, n9⟩ : ∃ b, fX12_is U 9 = some b ∧ (tk B L tu = 45 → b = 1) ∧ (tk B L tu ≠ 45 → b = 0) := isVal (k := 45) cl hq htU rfl
                obtain ⟨b10, e10, y10, n10⟩ : ∃ b, fX12_is U 10 = some b ∧ (tk B L tu = 42 → b = 1) ∧ (tk B L tu ≠ 42 → b = 0) := isVal (k := 42) cl hq htU rfl
                obtain ⟨b15, e15, y15, n15⟩ : ∃ b, fX12_is U 15 = some b ∧ (tk B L tu = 47 → b = 1) ∧ (tk B L tu ≠ 47 → b = 0) := isVal (k := 47) cl hq htU rfl
                rw [e8, Option.bind_some]
                by_cases gop : isop (tk B L tu) = true
                · refine ok_jj (fun (K5 : Int32 → Option qv_St) => okk (K5 1) (fun Z => lM B L R.1 Z ∧ fmE sd c0 S Z ∧ (R.1.2.1 = 0 → Z.1 0 12 = 0 ∧ cds c0 R.2 Z))) ?_ ?_
                  · refine ok_neg (by decide) ?_
                    have hrk := rk_op gop
                    rw [e10, Option.bind_some]
                    refine ok_jj (fun (K6 : Int32 → Option qv_St) => ∀ x2, ((rkO (tk B L tu) = 1 ∧ x2 = 0) ∨ (rkO (tk B L tu) = 2 ∧ x2 = 1)) → okk (K6 x2) (fun Z => lM B L R.1 Z ∧ fmE sd c0 S Z ∧ (R.1.2.1 = 0 → Z.1 0 12 = 0 ∧ cds c0 R.2 Z))) ?_ ?_
                    · intro x2 hx2
                      have hnp := st_bd su cw
                      have htp := tpo_le su
                      have h20 := st60 cw c6
                      refine ok_bd (comesM (r := rkO (tk B L tu)) cs cc cw (by omega) hsd (by omega) hx2) ?_
                      rintro Y ⟨y1, y2, y3⟩
                      have y11 : Y.1 0 11 = nI tu := by rw [y3.2.1 11 (by decide) (by decide)]; exact cl.2.1 rfl
                      have hfY := fmE_trans cf (fmE_K y3)
                      have htY := fmE_tk ht hfY
                      have hlen : (popS (rkO (tk B L tu)) su).length ≤ 20 := by
                        refine st60 (pop_wst su cw) ?_
                        rw [pop_nO hrk.1]; exact c6
                      rw [y11, y1.1]
                      refine ok_ck tu rfl (by omega) (by decide) (ok_ck _ rfl (by omega) (by decide) ?_)
                      rw [qi_cl (by omega), qi_cl (by omega), (kindM htY cn c4).1]
                      refine ok_b (fun X => X = qv_si Y 33 (popS (rkO (tk B L tu)) su).length (nI (km (tk B L tu)))) rfl ?_
                      rintro X hX
                      have x33 : X.1 33 = upd (Y.1 33) (popS (rkO (tk B L tu)) su).length (nI (km (tk B L tu))) := by rw [hX, qs_si, qs_eq]
                      have xq : ∀ q, q ≠ 33 → X.1 q = Y.1 q := fun q hq' => by rw [hX, qs_si, qs_ne hq']
                      have hfX : fmE sd c0 S X := by rw [hX]; exact fmE_trans hfY fmE_33
                      have x49 : X.1 0 49 = nI (popS (rkO (tk B L tu)) su).length := by rw [xq 0 (by decide)]; exact y1.1
                      clear hX
                      rw [x49, nI_1]
                      refine ok_b (fun W => W = qv_si X 0 49 (nI ((popS (rkO (tk B L tu)) su).length + 1))) rfl ?_
                      rintro W hW
                      have w49 : W.1 0 49 = nI ((popS (rkO (tk B L tu)) su).length + 1) := by rw [hW, qs_si, qs_eq, upd_eq]
                      have w0 : ∀ k, k ≠ 49 → W.1 0 k = Y.1 0 k := fun k hk => by rw [hW, qs_si, qs_eq, upd_ne hk, xq 0 (by decide)]
                      have wq : ∀ q, q ≠ 0 → W.1 q = X.1 q := fun q hq' => by rw [hW, qs_si, qs_ne hq']
                      have hfW : fmE sd c0 S W := by rw [hW]; exact fmE_trans hfX (fmE_si (Or.inr rfl))
                      clear hW
                      have hlW : lM B L (tu, 0, 0) W := by
                        refine lM_fr cl ?_ ?_ ?_
                        · rw [w0 11 (by decide), y3.2.1 11 (by decide) (by decide)]
                        · rw [w0 13 (by decide), y3.2.1 13 (by decide) (by decide)]
                        · rw [w0 14 (by decide), y3.2.1 14 (by decide) (by decide)]
                      have hop4 := isop_iff.mp gop
                      refine ok_bd (goX hlW c4 cn (fmE_tk ht hfW) (by omega)) ?_
                      rintro Z ⟨z1, z2⟩
                      have hfZ := fmE_trans hfW (fmE_P z1)
                      rw [er_op c4 gop] at ue
                      have hpn := pop_nP hrk.1 su
                      rcases z2 with ⟨g, z2, z3⟩ | ⟨g, z2⟩
                      · rw [nx_lt g] at ue
                        refine ih (402 - (tu + 1)) _ _ (by omega) (Or.inl ⟨rfl, _, _, tu + 1, rfl, ⟨z2, ⟨by omega, z3⟩, ⟨⟨?_, ?_⟩, ⟨?_, ?_⟩⟩, ⟨push_wst gop cw, ?_, ?_⟩, ?_, hfZ⟩, ue⟩)
                        · rw [z1.2.1 49 (by decide) (by decide) (by decide), w49]; rfl
                        · rw [z1.1 33 (by decide), wq 33 (by decide), x33, List.map_cons]
                          have := prep_push (x := nI (km (tk B L tu))) y1.2
                          rw [List.length_map] at this
                          exact this
                        · rw [z1.2.1 45 (by decide) (by decide) (by decide), w0 45 (by decide)]; exact y2.1
                        · rw [z1.1 31 (by decide), z1.1 32 (by decide), wq 31 (by decide), wq 32 (by decide), xq 31 (by decide), xq 32 (by decide)]; exact y2.2
                        · rw [nO, if_neg hrk.2.2, pop_nO hrk.1]; exact c6
                        · rw [z1.2.1 12 (by decide) (by decide) (by decide), w0 12 (by decide), y3.2.1 12 (by decide) (by decide), c12, nO, if_neg hrk.2.2, pop_nO hrk.1]; rfl
                        · rw [nP, if_neg hrk.2.2, List.length_append]; omega
                      · rw [nx_ge g] at ue
                        refine ih 0 _ _ (by omega) (Or.inr ?_)
                        rw [← ue]
                        exact ⟨(by decide : (2 : Nat) ≠ 0), (by decide : (2 : Nat) ≤ 5), z2, hfZ⟩
                    · intro K6 hK6
                      refine ok_jj (fun K7 => K7 = K6 1) rfl ?_
                      rintro K7 rfl
                      rcases isop_iff.mp gop with e | e | e | e
                      · rw [n10 (by omega), e15, Option.bind_some, n15 (by omega)]
                        exact ok_pos rfl (ok_pos rfl (hK6 0 (Or.inl ⟨by rw [e]; rfl, rfl⟩)))
                      · rw [n10 (by omega), e15, Option.bind_some, n15 (by omega)]
                        exact ok_pos rfl (ok_pos rfl (hK6 0 (Or.inl ⟨by rw [e]; rfl, rfl⟩)))
                      · rw [y10 e]
                        exact ok_neg (by decide) (hK6 1 (Or.inr ⟨by rw [e]; rfl, rfl⟩))
                      · rw [n10 (by omega), e15, Option.bind_some, y15 e]
                        exact ok_pos rfl (ok_neg (by decide) (hK6 1 (Or.inr ⟨by rw [e]; rfl, rfl⟩)))
                  · intro K5 hK5
                    refine ok_jj (fun K8 => okk K8 (fun Z => lM B L R.1 Z ∧ fmE sd c0 S Z ∧ (R.1.2.1 = 0 → Z.1 0 12 = 0 ∧ cds c0 R.2 Z))) hK5 ?_
                    intro K8 hK8
                    rw [e9, Option.bind_some, e10, Option.bind_some, e15, Option.bind_some]
                    rcases isop_iff.mp gop with e | e | e | e
                    · rw [y8 e]
                      exact ok_neg (by decide) hK8
                    · rw [n8 (by omega), y9 e]
                      exact ok_pos rfl (ok_neg (by decide) hK8)
                    · rw [n8 (by omega), n9 (by omega), y10 e]
                      exact ok_pos rfl (ok_pos rfl (ok_neg (by decide) hK8))
                    · rw [n8 (by omega), n9 (by omega), n10 (by omega), y15 e]
                      exact ok_pos rfl (ok_pos rfl (ok_pos rfl (ok_neg (by decide) hK8)))
                · have n4 : tk B L tu ≠ 43 ∧ tk B L tu ≠ 45 ∧ tk B L tu ≠ 42 ∧ tk B L tu ≠ 47 := ⟨fun z => gop (isop_iff.mpr (by omega)), fun z => gop (isop_iff.mpr (by omega)), fun z => gop (isop_iff.mpr (by omega)), fun z => gop (isop_iff.mpr (by omega))⟩
                  rw [n8 n4.1]
                  refine ok_jj (fun (K5 : Int32 → Option qv_St) => okk (K5 0) (fun Z => lM B L R.1 Z ∧ fmE sd c0 S Z ∧ (R.1.2.1 = 0 → Z.1 0 12 = 0 ∧ cds c0 R.2 Z))) (ok_pos rfl (hK1 U (Or.inl ⟨su, ou, tu, uc, ue, gop, u41⟩))) ?_
                  intro K5 hK5
                  refine ok_jj (fun _ => True) trivial ?_
                  intro K8 _
                  rw [e9, Option.bind_some, e10, Option.bind_some, e15, Option.bind_some, n9 n4.2.1, n10 n4.2.2.1, n15 n4.2.2.2]
                  exact ok_pos rfl (ok_pos rfl (ok_pos rfl (ok_pos rfl hK5)))
              · rw [isB hB.2.2.1 hB.1 hB.2.1, Option.bind_some]
                refine ok_jj (fun (K5 : Int32 → Option qv_St) => okk (K5 0) (fun Z => lM B L R.1 Z ∧ fmE sd c0 S Z ∧ (R.1.2.1 = 0 → Z.1 0 12 = 0 ∧ cds c0 R.2 Z))) (ok_pos rfl (hK1 U (Or.inr ⟨hB, hX⟩))) ?_
                intro K5 hK5
                refine ok_jj (fun _ => True) trivial ?_
                intro K8 _
                rw [isB (x := 9) hB.2.2.1 hB.1 hB.2.1, Option.bind_some, isB (x := 10) hB.2.2.1 hB.1 hB.2.1, Option.bind_some, isB (x := 15) hB.2.2.1 hB.1 hB.2.1, Option.bind_some]
                exact ok_pos rfl (ok_pos rfl (ok_pos rfl (ok_pos rfl hK5)))
            · intro K4 hK4
              refine ok_lp1 (fun n T => (∃ st out t', n = 402 - t' ∧ t0 < t' ∧ cfg B L sd c0 S st out t' T ∧ eR (tk B L) (tvn B L) false st out t' = R) ∨ (bdS B L sd c0 S R T ∧ stX sd c0 T)) ?_ N (402 - (t' + 1)) Z (Or.inl ⟨st, out ++ [o], t' + 1, rfl, by omega, zc, ze⟩) (by omega)
              rintro self2 n U hI2 ih2
              rcases hI2 with ⟨su, ou, tu, rfl, ut, uc, ue⟩ | ⟨hB, hX⟩
              · obtain ⟨cl, ⟨c4, cn⟩, ⟨cs, cc⟩, ⟨cw, c6, c12⟩, cb_, cf⟩ := id uc
                have htU := fmE_tk ht cf
                have hq : qW B L (tu, 0, 0) := ⟨⟨c4, Nat.zero_le _⟩, fun _ => cn⟩
                obtain ⟨b7, e7, y7, n7⟩ : ∃ b, fX12_is U 7 = some b ∧ (tk B L tu = 41 → b = 1) ∧ (tk B L tu ≠ 41 → b = 0) := isVal (k := 41) cl hq htU rfl
                rw [e7, Option.bind_some]
                by_cases g41 : tk B L tu = 41
                · rw [y7 g41]
                  refine ok_neg (by decide) ?_
                  rw [c12]
                  by_cases g0 : nO su = 0
                  · rw [g0]
                    exact ok_pos (by decide) (hK4 U (Or.inl ⟨su, ou, tu, ut, uc, ue, fun _ => g0⟩))
                  · refine ok_neg (nI_nle (by omega) (by omega)) ?_
                    have hnp := st_bd su cw
                    have htp := tpo_le su
                    have h20 := st60 cw c6
                    refine ok_bd (comesM (r := 1) cs cc cw (by omega) hsd (by omega) (Or.inl ⟨rfl, rfl⟩)) ?_
                    rintro Y ⟨y1, y2, y3⟩
                    rw [er_41 c4 g41 (by omega)] at ue
                    obtain ⟨v, v1, v2, v3, v4⟩ := pop_40 cw (by omega)
                    rw [v1, List.tail_cons] at ue
                    rw [v1] at y1
                    have y49 : Y.1 0 49 = nI (v.length + 1) := y1.1
                    have y33 : prep (Y.1 33) (v.map (fun x => nI (km x))) := y1.2.2
                    have hfY := fmE_trans cf (fmE_K y3)
                    rw [y49, nI_pred]
                    refine ok_b (fun X => X = qv_si Y 0 49 (nI v.length)) rfl ?_
                    rintro X hX
                    have x49 : X.1 0 49 = nI v.length := by rw [hX, qs_si, qs_eq, upd_eq]
                    have x0 : ∀ k, k ≠ 49 → X.1 0 k = Y.1 0 k := fun k hk => by rw [hX, qs_si, qs_eq, upd_ne hk]
                    have xq : ∀ q, q ≠ 0 → X.1 q = Y.1 q := fun q hq' => by rw [hX, qs_si, qs_ne hq']
                    have hfX : fmE sd c0 S X := by rw [hX]; exact fmE_trans hfY (fmE_si (Or.inr rfl))
                    clear hX
                    have x12 : X.1 0 12 = nI (nO v + 1) := by rw [x0 12 (by decide), y3.2.1 12 (by decide) (by decide), c12, v3]
                    rw [x12, nI_pred]
                    refine ok_b (fun W => W = qv_si X 0 12 (nI (nO v))) rfl ?_
                    rintro W hW
                    have w12 : W.1 0 12 = nI (nO v) := by rw [hW, qs_si, qs_eq, upd_eq]
                    have w0 : ∀ k, k ≠ 12 → W.1 0 k = X.1 0 k := fun k hk => by rw [hW, qs_si, qs_eq, upd_ne hk]
                    have wq : ∀ q, q ≠ 0 → W.1 q = X.1 q := fun q hq' => by rw [hW, qs_si, qs_ne hq']
                    have hfW : fmE sd c0 S W := by rw [hW]; exact fmE_trans hfX (fmE_si (Or.inl rfl))
                    clear hW
                    have hlW : lM B L (tu, 0, 0) W := by
                      refine lM_fr cl ?_ ?_ ?_
                      · rw [w0 11 (by decide), x0 11 (by decide), y3.2.1 11 (by decide) (by decide)]
                      · rw [w0 13 (by decide), x0 13 (by decide), y3.2.1 13 (by decide) (by decide)]
                      · rw [w0 14 (by decide), x0 14 (by decide), y3.2.1 14 (by decide) (by decide)]
                    refine ok_bd (goX hlW c4 cn (fmE_tk ht hfW) (by omega)) ?_
                    rintro Q1 ⟨z1, z2⟩
                    have hfZ := fmE_trans hfW (fmE_P z1)
                    have hstk : stk v Q1 := by
                      refine ⟨?_, ?_⟩
                      · rw [z1.2.1 49 (by decide) (by decide) (by decide), w0 49 (by decide)]; exact x49
                      · rw [z1.1 33 (by decide), wq 33 (by decide), xq 33 (by decide)]; exact y33
                    have hcds : cds c0 (ou ++ popK 1 su) Q1 := by
                      refine ⟨?_, ?_⟩
                      · rw [z1.2.1 45 (by decide) (by decide) (by decide), w0 45 (by decide), x0 45 (by decide)]; exact y2.1
                      · rw [z1.1 31 (by decide), z1.1 32 (by decide), wq 31 (by decide), wq 32 (by decide), xq 31 (by decide), xq 32 (by decide)]; exact y2.2
                    have hlen : (ou ++ popK 1 su).length = ou.length + (popK 1 su).length := List.length_append
                    rcases z2 with ⟨g, z2, z3⟩ | ⟨g, z2⟩
                    · rw [nx_lt g] at ue
                      refine ih2 (402 - (tu + 1)) _ (by omega) (Or.inl ⟨v, _, tu + 1, rfl, by omega, ⟨z2, ⟨by omega, z3⟩, ⟨hstk, hcds⟩, ⟨v2, by omega, ?_⟩, by omega, hfZ⟩, ue⟩)
                      rw [z1.2.1 12 (by decide) (by decide) (by decide)]; exact w12
                    · rw [nx_ge g] at ue
                      have hv20 := st60 v2 (by omega)
                      refine ih2 0 _ (by omega) (Or.inr ⟨?_, v, _, hstk, hcds, v2, by omega, by omega⟩)
                      rw [← ue]
                      exact ⟨(by decide : (2 : Nat) ≠ 0), (by decide : (2 : Nat) ≤ 5), z2, hfZ⟩
                · rw [n7 g41]
                  exact ok_pos rfl (hK4 U (Or.inl ⟨su, ou, tu, ut, uc, ue, fun z => absurd z g41⟩))
              · rw [isB hB.2.2.1 hB.1 hB.2.1, Option.bind_some]
                exact ok_pos rfl (hK4 U (Or.inr ⟨hB, hX⟩))
          · refine ok_neg ?_ (ok_s (outB Z zb))
            rw [zb.2.2.1.1]
            have q1 := zb.1
            have q3 := zb.2.1
            exact nI_nle (by omega) (by omega)
        · rw [unitB hB, Option.bind_some]
          refine ok_neg ?_ (ok_s (outB T hB))
          rw [hB.2.2.1.1]
          have q1 := hB.1
          have q3 := hB.2.1
          exact nI_nle (by omega) (by omega)
      · intro K3 hK3
        refine ok_lp1 (fun n T => (∃ st out t', n = 402 - t' ∧ t0 ≤ t' ∧ cfg B L sd c0 S st out t' T ∧ eR (tk B L) (tvn B L) true st out t' = R) ∨ bdS B L sd c0 S R T) ?_ N (402 - t0) T0 (Or.inl ⟨st0, ou0, t0, rfl, Nat.le_refl _, hcf, hE0⟩) (by omega)
        rintro self3 n U hI3 ih3
        rcases hI3 with ⟨su, ou, tu, rfl, ut, uc, ue⟩ | hB
        · obtain ⟨cl, ⟨c4, cn⟩, ⟨cs, cc⟩, ⟨cw, c6, c12⟩, cb_, cf⟩ := id uc
          have htU := fmE_tk ht cf
          have hq : qW B L (tu, 0, 0) := ⟨⟨c4, Nat.zero_le _⟩, fun _ => cn⟩
          obtain ⟨b6, e6, y6, n6⟩ : ∃ b, fX12_is U 6 = some b ∧ (tk B L tu = 40 → b = 1) ∧ (tk B L tu ≠ 40 → b = 0) := isVal (k := 40) cl hq htU rfl
          rw [e6, Option.bind_some]
          by_cases g40 : tk B L tu = 40
          · rw [y6 g40]
            refine ok_neg (by decide) ?_
            have h20 := st60 cw c6
            rw [er_40 c4 g40] at ue
            refine ok_jj (fun (K9 : qv_St → Option qv_St) => ∀ T, (∃ p, lM B L p T ∧ fmE sd c0 S T ∧ stk su T ∧ cds c0 ou T ∧ T.1 0 12 = nI (nO su) ∧ ((p = (tu, 0, 0) ∧ nO su < 6) ∨ (p = R.1 ∧ R.1.2.1 ≠ 0 ∧ R.1.2.1 ≤ 5 ∧ R.1.1 ≤ 400))) → okk (K9 T) (fun Z => lM B L R.1 Z ∧ fmE sd c0 S Z ∧ (R.1.2.1 = 0 → Z.1 0 12 = 0 ∧ cds c0 R.2 Z))) ?_ ?_
            · rintro Y ⟨p, pl, pf, ps_, pc, p12, hp⟩
              rw [p12, nI_1]
              refine ok_b (fun X => X = qv_si Y 0 12 (nI (nO su + 1))) rfl ?_
              rintro X hX
              have x12 : X.1 0 12 = nI (nO su + 1) := by rw [hX, qs_si, qs_eq, upd_eq]
              have x0 : ∀ k, k ≠ 12 → X.1 0 k = Y.1 0 k := fun k hk => by rw [hX, qs_si, qs_eq, upd_ne hk]
              have xq : ∀ q, q ≠ 0 → X.1 q = Y.1 q := fun q hq' => by rw [hX, qs_si, qs_ne hq']
              have hfX : fmE sd c0 S X := by rw [hX]; exact fmE_trans pf (fmE_si (Or.inl rfl))
              clear hX
              have hlX : lM B L p X := lM_fr pl (x0 11 (by decide)) (x0 13 (by decide)) (x0 14 (by decide))
              have go : ∀ p2, okk (fX12_goesOn X) (fun Z => lM B L p2 Z ∧ fmP X Z) → (∀ W, lM B L p2 W → fmE sd c0 S W → stk (40 :: su) W → cds c0 ou W → W.1 0 12 = nI (nO su + 1) → okk (self3 W) (fun Z => lM B L R.1 Z ∧ fmE sd c0 S Z ∧ (R.1.2.1 = 0 → Z.1 0 12 = 0 ∧ cds c0 R.2 Z))) → okk ((fX12_goesOn X).bind fun S_22 => qv_ck (S_22.1 0 49) 64 <| qv_b (qv_si S_22 33 (Int32.toNatClampNeg (S_22.1 0 49)) 6) fun S_23 => qv_b (qv_si S_23 0 49 ((S_23.1 0 49) + 1)) fun S_24 => self3 S_24) (fun Z => lM B L R.1 Z ∧ fmE sd c0 S Z ∧ (R.1.2.1 = 0 → Z.1 0 12 = 0 ∧ cds c0 R.2 Z)) := by
                intro p2 hgo hnext
                refine ok_bd hgo ?_
                rintro V ⟨vl, vf⟩
                have v49 : V.1 0 49 = nI su.length := by rw [vf.2.1 49 (by decide) (by decide) (by decide), x0 49 (by decide)]; exact ps_.1
                rw [v49]
                refine ok_ck _ rfl (by omega) (by decide) ?_
                rw [qi_cl (by omega)]
                have hfV := fmE_trans hfX (fmE_P vf)
                refine ok_b (fun D => D = qv_si V 33 su.length 6) rfl ?_
                rintro D hD
                have d33 : D.1 33 = upd (V.1 33) su.length 6 := by rw [hD, qs_si, qs_eq]
                have dq : ∀ q, q ≠ 33 → D.1 q = V.1 q := fun q hq' => by rw [hD, qs_si, qs_ne hq']
                have hfD : fmE sd c0 S D := by rw [hD]; exact fmE_trans hfV fmE_33
                clear hD
                rw [dq 0 (by decide), v49, nI_1]
                refine ok_b (fun W => W = qv_si D 0 49 (nI (su.length + 1))) rfl ?_
                rintro W hW
                have w49 : W.1 0 49 = nI (su.length + 1) := by rw [hW, qs_si, qs_eq, upd_eq]
                have w0 : ∀ k, k ≠ 49 → W.1 0 k = V.1 0 k := fun k hk => by rw [hW, qs_si, qs_eq, upd_ne hk, dq 0 (by decide)]
                have wq : ∀ q, q ≠ 0 → W.1 q = D.1 q := fun q hq' => by rw [hW, qs_si, qs_ne hq']
                have hfW : fmE sd c0 S W := by rw [hW]; exact fmE_trans hfD (fmE_si (Or.inr rfl))
                clear hW
                refine hnext W (lM_fr vl (w0 11 (by decide)) (w0 13 (by decide)) (w0 14 (by decide))) hfW ⟨w49, ?_⟩ ⟨?_, ?_⟩ ?_
                · rw [wq 33 (by decide), d33, List.map_cons]
                  have hp33 : prep (V.1 33) (su.map (fun x => nI (km x))) := by rw [vf.1 33 (by decide), xq 33 (by decide)]; exact ps_.2
                  have := prep_push (x := nI (km 40)) hp33
                  rw [List.length_map] at this
                  exact this
                · rw [w0 45 (by decide), vf.2.1 45 (by decide) (by decide) (by decide), x0 45 (by decide)]; exact pc.1
                · rw [wq 31 (by decide), wq 32 (by decide), dq 31 (by decide), dq 32 (by decide), vf.1 31 (by decide), vf.1 32 (by decide), xq 31 (by decide), xq 32 (by decide)]; exact pc.2
                · rw [w0 12 (by decide), vf.2.1 12 (by decide) (by decide) (by decide)]; exact x12
              rcases hp with ⟨rfl, g6⟩ | ⟨rfl, r1, r5, r4⟩
              · rw [if_neg (by omega)] at ue
                by_cases g : tu < 400
                · rw [nx_lt g] at ue
                  have hg := goX hlX c4 cn (fmE_tk ht hfX) (by omega)
                  refine go (tu + 1, 0, 0) (ok_mono hg ?_) ?_
                  · rintro Z ⟨z1, ⟨_, z2, _⟩ | ⟨z0, _⟩⟩
                    · exact ⟨z2, z1⟩
                    · exact absurd g z0
                  · intro W w1 w2 w3 w4 w5
                    have e40 : nO (40 :: su) = nO su + 1 := by rw [nO, if_pos rfl]
                    have p40 : nP (40 :: su) = nP su := by rw [nP, if_pos rfl]; rfl
                    have hin := (tk_in (B := B) (L := L) (i := tu) (by omega)).1
                    exact ih3 (402 - (tu + 1)) _ (by omega) (Or.inl ⟨40 :: su, ou, tu + 1, rfl, by omega, ⟨w1, ⟨by omega, hin⟩, ⟨w3, w4⟩, ⟨⟨cw, Or.inl rfl⟩, by omega, by rw [w5, e40]⟩, by omega, w2⟩, ue⟩)
                · rw [nx_ge g] at ue
                  have hg := goX hlX c4 cn (fmE_tk ht hfX) (by omega)
                  refine go (tu, 2, tu) (ok_mono hg ?_) ?_
                  · rintro Z ⟨z1, ⟨z0, _⟩ | ⟨_, z2⟩⟩
                    · exact absurd z0 g
                    · exact ⟨z2, z1⟩
                  · intro W w1 w2 _ _ _
                    refine ih3 0 _ (by omega) (Or.inr ?_)
                    rw [← ue]
                    exact ⟨(by decide : (2 : Nat) ≠ 0), (by decide : (2 : Nat) ≤ 5), w1, w2⟩
              · have hqR : qW B L R.1 := ⟨⟨r4, r5⟩, fun z => absurd z r1⟩
                refine go (sPass R.1) (goesL hlX hqR (fmE_tk ht hfX)) ?_
                intro W w1 w2 _ _ _
                refine ih3 0 _ (by omega) (Or.inr ⟨r1, r5, ?_, w2⟩)
                have h2 := sPass_f r1
                exact lM_cg w1 (by rw [h2]; exact r1) h2.symm
            · intro K9 hK9
              rw [c12]
              by_cases g6 : nO su = 6
              · rw [if_pos g6] at ue
                refine ok_pos (by rw [g6]; rfl) ?_
                refine ok_bd (failL 2 cl hq htU) ?_
                rintro Y ⟨y1, y2⟩
                refine hK9 Y ⟨R.1, ?_, fmE_trans cf (fmE_P y2), ⟨?_, ?_⟩, ⟨?_, ?_⟩, ?_, Or.inr ⟨rfl, ?_, ?_, ?_⟩⟩
                · rw [← ue]; exact y1
                · rw [y2.2.1 49 (by decide) (by decide) (by decide)]; exact cs.1
                · rw [y2.1 33 (by decide)]; exact cs.2
                · rw [y2.2.1 45 (by decide) (by decide) (by decide)]; exact cc.1
                · rw [y2.1 31 (by decide), y2.1 32 (by decide)]; exact cc.2
                · rw [y2.2.1 12 (by decide) (by decide) (by decide)]; exact c12
                · rw [← ue]; exact (by decide : (2 : Nat) ≠ 0)
                · rw [← ue]; exact (by decide : (2 : Nat) ≤ 5)
                · rw [← ue]; exact c4
              · refine ok_neg (fun z => g6 ((nI_eq (b := 6) (by omega) (by decide)).mp z)) ?_
                exact hK9 U ⟨(tu, 0, 0), cl, cf, cs, cc, c12, Or.inl ⟨rfl, by omega⟩⟩
          · rw [n6 g40]
            exact ok_pos rfl (hK3 U (Or.inl ⟨su, ou, tu, ut, uc, ue, g40⟩))
        · rw [isB hB.2.2.1 hB.1 hB.2.1, Option.bind_some]
          exact ok_pos rfl (hK3 U (Or.inr hB))
    · refine ok_if (fun _ => ok_s (outB T0 hB0)) (fun _ => ok_neg ?_ (ok_s (outB T0 hB0)))
      rw [hB0.2.2.1.1]
      have q1 := hB0.1
      have q3 := hB0.2.1
      exact nI_ne0 (by omega) (by omega)
