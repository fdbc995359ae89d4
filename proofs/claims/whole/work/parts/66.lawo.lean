/-! the reference's laws: the loop -/
theorem lawR_q {B : Nat → Nat} {L : Nat} (hV : ∀ i, tvn B L i < 2 ^ 31) {q : pst} (hw : qW B L q) (h10 : q.2.1 = 0 → tk B L q.1 ≠ 24) : qW B L (lw1 (tk B L) (tvn B L) q) ∧ qW B L (lw2 (tk B L) (tvn B L) q) ∧ qW B L (lw3 (tk B L) (tvn B L) q) := by
  have h1 : qW B L (lw1 (tk B L) (tvn B L) q) := sOnly_q (sX_q hV (sPass_q hw h10)) (by decide)
  have h2 : qW B L (lw2 (tk B L) (tvn B L) q) := sOnly_q (sX_q hV h1) (by decide)
  exact ⟨h1, h2, sOnly_q (sX_q hV h2) (by decide)⟩
theorem tellLawM {B : Nat → Nat} {L sd c0 b0 k : Nat} {S : qv_St} {p : pst} (hV : ∀ i, tvn B L i < 2 ^ 31) (h : lM B L p S) (hw : qW B L p) (ht : tkM' B L S) (hsd : sd ≤ 1) (h19 : S.1 0 19 = nI sd) (hk : k < 3) (h39 : S.1 0 39 = nI b0) (hb0 : 130 * sd ≤ b0) (hb2 : b0 ≤ 130 * sd + 110) (hc0 : 420 * sd ≤ c0) (hs : p.2.1 = 0 → S.1 0 12 = 0 ∧ S.1 0 45 = nI c0 ∧ c0 ≤ 420 * sd + p.1 ∧ 4 * b0 + 1 ≤ 520 * sd + p.1) :
    okk (fX12_tellLaw S (nI k)) (fun Z => lwQ B L sd c0 b0 (3 * sd + k) S (lawR (tk B L) (tvn B L) 5 (sOnly (tk B L) 61 p)) Z) := by
  generalize hR : lawR (tk B L) (tvn B L) 5 (sOnly (tk B L) 61 p) = R
  unfold fX12_tellLaw
  have hN5 := qN
  generalize qv_N = N at hN5 ⊢
  refine ok_bd (mustL (k := 61) h hw ht rfl) ?_
  rintro S1 ⟨l1, f1⟩
  have ht1 := fmP_tk ht f1
  have e39 : S1.1 0 39 = nI b0 := by rw [f1.2.1 39 (by decide) (by decide) (by decide)]; exact h39
  have e19 : S1.1 0 19 = nI sd := by rw [f1.2.1 19 (by decide) (by decide) (by decide)]; exact h19
  refine ok_b (fun x => x = nI b0) e39 ?_
  rintro x2 rfl
  refine ok_mono (P := fun Z => lwQ B L sd c0 b0 (3 * sd + k) S1 R Z) ?_ (fun Z hz => ⟨hz.1, fmW_PT f1 hz.2.1, hz.2.2⟩)
  refine ok_jj (fun (K1 : qv_St → Option qv_St) => ∀ T q acc b c, lwI B L sd c0 b0 S1 q acc b c T → sOnly (tk B L) 59 (sX (tk B L) (tvn B L) q).1 = R.1 → (R.1.2.1 = 0 → R.2 = acc ++ [(none, (sX (tk B L) (tvn B L) q).2)]) → okk (K1 T) (fun Z => lwQ B L sd c0 b0 (3 * sd + k) S1 R Z)) (fun T q acc b c g1 g2 g3 => lawK1 hV ht1 hsd e19 hk hb0 hc0 g1 g2 g3) ?_
  intro K1 hK1
  have hI0 : lwI B L sd c0 b0 S1 (sOnly (tk B L) 61 p) [] b0 c0 S1 := by
    refine ⟨l1, sOnly_q hw (by decide), fmT_rfl, e39, Nat.le_refl _, hb2, Nat.le_refl _, fun z => ?_⟩
    obtain ⟨z1, z2, z3, z4⟩ := sOnly_ok z
    obtain ⟨s1, s2, s3, s4⟩ := hs z1
    rw [z4]
    refine ⟨?_, ?_, ?_, ?_, rfl, trivial, fun j j1 j2 => ?_⟩
    · rw [f1.2.1 12 (by decide) (by decide) (by decide)]; exact s1
    · rw [f1.2.1 45 (by decide) (by decide) (by decide)]; exact s2
    · show c0 ≤ 420 * sd + (p.1 + 1); omega
    · show 4 * b0 + 2 ≤ 520 * sd + (p.1 + 1); omega
    · have j2 : j < b0 + 0 := j2
      omega
  refine ok_lp2 (fun n T x => ∃ (j : Nat) (q : pst) (acc : List lwB) (b c : Nat), n + j = 5 ∧ x = nI j ∧ lwI B L sd c0 b0 S1 q acc b c T ∧ (lawR (tk B L) (tvn B L) n q).1 = R.1 ∧ (R.1.2.1 = 0 → R.2 = acc ++ (lawR (tk B L) (tvn B L) n q).2) ∧ (n = 0 → q.2.1 ≠ 0)) ?_ N 5 S1 0 ⟨0, _, [], b0, c0, rfl, rfl, hI0, by rw [hR], fun _ => by rw [hR]; rfl, fun z => by omega⟩ (by omega)
  rintro self n T x ⟨j, q, acc, b, c, hnj, rfl, hI, hq1, hq2, hn0⟩ ih
  have hw5 := hI.2.1.1.2
  have toK1f : q.2.1 ≠ 0 → okk (K1 T) (fun Z => lwQ B L sd c0 b0 (3 * sd + k) S1 R Z) := by
    intro g
    have e := sX_f (K := tk B L) (V := tvn B L) g
    have e2 := lawR_f (K := tk B L) (V := tvn B L) g n
    refine hK1 T q acc b c hI ?_ (fun z => ?_)
    · rw [e, ← hq1, e2]; exact sOnly_f g
    · rw [← hq1, e2] at z; exact absurd z g
  by_cases g0 : q.2.1 = 0
  · cases n with
    | zero => exact absurd g0 (hn0 rfl)
    | succ m =>
      obtain ⟨hl, hwq, hf, t39, hbb, hb3, hcc, hok⟩ := id hI
      have htT := fmT_tk ht1 hf
      refine ok_pos (by rw [hl.1, g0]; rfl) ?_
      obtain ⟨b30, e30, y30, n30⟩ : ∃ b, fX12_is T 30 = some b ∧ (tk B L q.1 = 10 → b = 1) ∧ (tk B L q.1 ≠ 10 → b = 0) := isVal (k := 10) (lM_z hl g0) ⟨⟨hwq.1.1, Nat.zero_le _⟩, fun _ => hwq.2 g0⟩ htT rfl
      rw [e30, Option.bind_some]
      by_cases g10 : tk B L q.1 = 10
      · rw [y30 g10]
        refine ok_neg (by decide) ?_
        rw [lawR, if_pos ⟨g0, g10⟩] at hq1 hq2
        obtain ⟨o12, o45, oc, ob, obl, obr, obu⟩ := hok g0
        have h4 := hwq.1.1
        by_cases gm : m = 0
        · rw [if_pos gm] at hq1
          have hq1 : sRef 2 q = R.1 := hq1
          refine ok_jj (fun (K2 : qv_St → Option qv_St) => ∀ T, lM B L R.1 T → fmT sd c0 b0 S1 T → okk (K2 T) (fun Z => lwQ B L sd c0 b0 (3 * sd + k) S1 R Z)) ?_ ?_
          · intro U u1 u2
            have hr1 : R.1.2.1 ≠ 0 := by rw [← hq1]; exact sRef_ok (by decide)
            have hr5 : R.1.2.1 ≤ 5 := by rw [← hq1]; exact (sRef_wf hwq.1 (by decide)).2
            exact ok_neg (by rw [u1.1]; exact nI_nle (by omega) (by omega)) (ok_s ⟨u1, fmW_T u2, fun z => absurd z hr1⟩)
          · intro K2 hK2
            refine ok_pos (show nI j = 4 by rw [show j = 4 by omega]; rfl) ?_
            refine ok_bd (failL 2 hl hwq htT) ?_
            rintro Y ⟨y1, y2⟩
            rw [hq1] at y1
            exact hK2 Y y1 (fmT_trans hf (fmT_P (c := c0) (b := b0) y2) (Nat.le_refl _) (Nat.le_refl _))
        · rw [if_neg gm] at hq1 hq2
          refine ok_jj (fun (K2 : qv_St → Option qv_St) => okk (K2 T) (fun Z => lwQ B L sd c0 b0 (3 * sd + k) S1 R Z)) ?_ (fun K2 hK2 => ok_neg (show ¬ nI j = 4 from fun z => by have := (nI_eq (b := 4) (by omega) (by decide)).mp z; omega) hK2)
          refine ok_pos (by rw [hl.1, g0]; decide) ?_
          have hw0 : qW B L (sPass q) := sPass_q hwq (fun _ => by omega)
          obtain ⟨hw1, hw2, hw3⟩ := lawR_q hV hwq (fun _ => by omega)
          refine ok_bd (goesL hl hwq htT) ?_
          rintro Y0 ⟨l0, f0⟩
          have a39 : Y0.1 0 39 = nI b := by rw [f0.2.1 39 (by decide) (by decide) (by decide)]; exact t39
          rw [a39]
          refine ok_ck b rfl (by omega) (by decide) ?_
          rw [qi_cl (by omega)]
          refine ok_b (fun X => X = qv_si Y0 26 b 1) rfl ?_
          rintro Y1 hY1
          have z1l : lM B L (sPass q) Y1 := by rw [hY1]; exact lM_si l0 (Or.inl (by decide))
          have z1f : fmT sd c b Y0 Y1 := by rw [hY1]; exact fmT_si (by decide) (by decide) (Nat.le_refl _) (by omega)
          have z10 : Y1.1 0 = Y0.1 0 := by rw [hY1, qs_si, qs_ne (by decide)]
          have z126 : Y1.1 26 b = 1 := by rw [hY1, qs_si, qs_eq, upd_eq]
          clear hY1
          rw [z10, a39]
          refine ok_ck b rfl (by omega) (by decide) ?_
          rw [qi_cl (by omega)]
          refine ok_b (fun X => X = qv_si Y1 27 b (Y0.1 0 45)) rfl ?_
          rintro Y2 hY2
          have z2l : lM B L (sPass q) Y2 := by rw [hY2]; exact lM_si z1l (Or.inl (by decide))
          have z2f : fmT sd c b Y1 Y2 := by rw [hY2]; exact fmT_si (by decide) (by decide) (Nat.le_refl _) (by omega)
          have z20 : Y2.1 0 = Y0.1 0 := by rw [hY2, qs_si, qs_ne (by decide), z10]
          have z227 : Y2.1 27 b = Y0.1 0 45 := by rw [hY2, qs_si, qs_eq, upd_eq]
          have z226 : Y2.1 26 b = 1 := by rw [hY2, qs_si, qs_ne (by decide)]; exact z126
          clear hY2
          have F2 : fmT sd c b T Y2 := fmT_trans (fmT_P (c := c) (b := b) f0) (fmT_trans z1f z2f (Nat.le_refl _) (Nat.le_refl _)) (Nat.le_refl _) (Nat.le_refl _)
          have c45 : Y0.1 0 45 = nI c := by rw [f0.2.1 45 (by decide) (by decide) (by decide)]; exact o45
          have ex0 := exprX (sd := sd) (c0 := c) z2l hw0 (fmT_tk htT F2) hsd (fun z => by
            obtain ⟨_, _, zz⟩ := sPass_ok z
            rw [z20, zz]
            exact ⟨by rw [f0.2.1 12 (by decide) (by decide) (by decide)]; exact o12, c45, by show c ≤ 420 * sd + (q.1 + 1); omega⟩)
          refine ok_bd ex0 ?_
          rintro Y3 ⟨l3, f3, k3⟩
          have F3 := fmT_trans F2 (fmT_E (b := b) f3) (Nat.le_refl _) (Nat.le_refl _)
          refine ok_bd (mustL (k := 60) l3 (sX_q hV hw0) (fmT_tk htT F3) rfl) ?_
          rintro Y4 ⟨l4, f4⟩
          have l4 : lM B L (lw1 (tk B L) (tvn B L) q) Y4 := l4
          have F4 := fmT_trans F3 (fmT_P (c := c) (b := b) f4) (Nat.le_refl _) (Nat.le_refl _)
          have d39 : Y4.1 0 39 = nI b := by rw [f4.2.1 39 (by decide) (by decide) (by decide), f3.2.1 39 (by decide) (by decide) (by decide) (by decide) (by decide) (by decide), z20]; exact a39
          rw [d39]
          refine ok_ck b rfl (by omega) (by decide) ?_
          rw [qi_cl (by omega)]
          refine ok_b (fun X => X = qv_si Y4 28 b (Y4.1 0 45)) rfl ?_
          rintro Y5 hY5
          have l5 : lM B L (lw1 (tk B L) (tvn B L) q) Y5 := by rw [hY5]; exact lM_si l4 (Or.inl (by decide))
          have f5 : fmT sd c b Y4 Y5 := by rw [hY5]; exact fmT_si (by decide) (by decide) (Nat.le_refl _) (by omega)
          have z50 : Y5.1 0 = Y4.1 0 := by rw [hY5, qs_si, qs_ne (by decide)]
          have z5q : ∀ r, r ≠ 28 → Y5.1 r = Y4.1 r := fun r hr => by rw [hY5, qs_si, qs_ne hr]
          have z528 : Y5.1 28 b = Y4.1 0 45 := by rw [hY5, qs_si, qs_eq, upd_eq]
          clear hY5
          have F5 := fmT_trans F4 f5 (Nat.le_refl _) (Nat.le_refl _)
          -- what is known where the first E ended well
          have ok1 : (lw1 (tk B L) (tvn B L) q).2.1 = 0 → (lw1 (tk B L) (tvn B L) q).1 = (sX (tk B L) (tvn B L) (sPass q)).1.1 + 1 ∧ q.1 + 1 < (sX (tk B L) (tvn B L) (sPass q)).1.1 ∧ (sX (tk B L) (tvn B L) (sPass q)).2.length + (q.1 + 1) ≤ (sX (tk B L) (tvn B L) (sPass q)).1.1 ∧ Y5.1 0 12 = 0 ∧ Y5.1 0 45 = nI (c + (sX (tk B L) (tvn B L) (sPass q)).2.length) ∧ codeAt (Y5.1 31) (Y5.1 32) c (sX (tk B L) (tvn B L) (sPass q)).2 := by
            intro z
            obtain ⟨z1, _, _, z4⟩ := sOnly_ok z
            obtain ⟨w1, _, w3, _, _, w6, _⟩ := sX_ok hV hw0.1.1 z1
            obtain ⟨_, _, v3⟩ := sPass_ok w1
            have v3' : (sPass q).1 = q.1 + 1 := by rw [v3]
            obtain ⟨k31, k32⟩ := k3 z1
            refine ⟨by unfold lw1; rw [z4], by omega, by omega, ?_, ?_, ?_⟩
            · rw [z50, f4.2.1 12 (by decide) (by decide) (by decide)]; exact k31
            · rw [z50, f4.2.1 45 (by decide) (by decide) (by decide)]; exact k32.1
            · rw [z5q 31 (by decide), z5q 32 (by decide), f4.1 31 (by decide), f4.1 32 (by decide)]; exact k32.2
          refine ok_jj (fun (K3 : qv_St → Option qv_St) => ∀ V, lM B L (sX (tk B L) (tvn B L) (lw1 (tk B L) (tvn B L) q)).1 V → fmE sd (c + (sX (tk B L) (tvn B L) (sPass q)).2.length) Y5 V → ((sX (tk B L) (tvn B L) (lw1 (tk B L) (tvn B L) q)).1.2.1 = 0 → V.1 0 12 = 0 ∧ cds (c + (sX (tk B L) (tvn B L) (sPass q)).2.length) (sX (tk B L) (tvn B L) (lw1 (tk B L) (tvn B L) q)).2 V) → okk (K3 V) (fun Z => lwQ B L sd c0 b0 (3 * sd + k) S1 R Z)) ?_ ?_
          · intro Y6 l6 f6 k6
            have F6 := fmT_trans F5 (fmT_E (b := b) f6) (by omega) (Nat.le_refl _)
            refine ok_bd (mustL (k := 11) l6 (sX_q hV hw1) (fmT_tk htT F6) rfl) ?_
            rintro Y7 ⟨l7, f7⟩
            have l7 : lM B L (lw2 (tk B L) (tvn B L) q) Y7 := l7
            have F7 := fmT_trans F6 (fmT_P (c := c) (b := b) f7) (Nat.le_refl _) (Nat.le_refl _)
            have g39 : Y7.1 0 39 = nI b := by rw [f7.2.1 39 (by decide) (by decide) (by decide), f6.2.1 39 (by decide) (by decide) (by decide) (by decide) (by decide) (by decide), z50]; exact d39
            have ok2 : (lw2 (tk B L) (tvn B L) q).2.1 = 0 → (lw1 (tk B L) (tvn B L) q).2.1 = 0 ∧ (lw2 (tk B L) (tvn B L) q).1 = (sX (tk B L) (tvn B L) (lw1 (tk B L) (tvn B L) q)).1.1 + 1 ∧ (lw1 (tk B L) (tvn B L) q).1 < (sX (tk B L) (tvn B L) (lw1 (tk B L) (tvn B L) q)).1.1 ∧ (sX (tk B L) (tvn B L) (lw1 (tk B L) (tvn B L) q)).2.length + (lw1 (tk B L) (tvn B L) q).1 ≤ (sX (tk B L) (tvn B L) (lw1 (tk B L) (tvn B L) q)).1.1 ∧ Y7.1 0 12 = 0 ∧ Y7.1 0 45 = nI (c + (sX (tk B L) (tvn B L) (sPass q)).2.length + (sX (tk B L) (tvn B L) (lw1 (tk B L) (tvn B L) q)).2.length) ∧ codeAt (Y7.1 31) (Y7.1 32) (c + (sX (tk B L) (tvn B L) (sPass q)).2.length) (sX (tk B L) (tvn B L) (lw1 (tk B L) (tvn B L) q)).2 := by
              intro z
              obtain ⟨z1, _, _, z4⟩ := sOnly_ok z
              obtain ⟨w1, _, w3, _, _, w6, _⟩ := sX_ok hV hw1.1.1 z1
              obtain ⟨k61, k62⟩ := k6 z1
              refine ⟨w1, by unfold lw2; rw [z4], by omega, by omega, ?_, ?_, ?_⟩
              · rw [f7.2.1 12 (by decide) (by decide) (by decide)]; exact k61
              · rw [f7.2.1 45 (by decide) (by decide) (by decide)]; exact k62.1
              · rw [f7.1 31 (by decide), f7.1 32 (by decide)]; exact k62.2
            refine ok_bd (termX (c := c + (sX (tk B L) (tvn B L) (sPass q)).2.length + (sX (tk B L) (tvn B L) (lw1 (tk B L) (tvn B L) q)).2.length) (b := b) hV l7 hw2 (fmT_tk htT F7) hsd g39 (by omega) (by omega) (fun z => by
              obtain ⟨v1, v2, v3, v4, v5, v6, v7⟩ := ok2 z
              obtain ⟨u1, u2, u3, _⟩ := ok1 v1
              exact ⟨v5, v6, by omega⟩)) ?_
            rintro Y8 ⟨l8, f8, h839, h8q, k8⟩
            have F8 := fmT_trans F7 f8 (by omega) (Nat.le_refl _)
            refine ok_bd (mustL (k := 12) l8 (sX_q hV hw2) (fmT_tk htT F8) rfl) ?_
            rintro Y9 ⟨l9, f9⟩
            have l9 : lM B L (lw3 (tk B L) (tvn B L) q) Y9 := l9
            have F9 := fmT_trans F8 (fmT_P (c := c) (b := b) f9) (Nat.le_refl _) (Nat.le_refl _)
            rw [nI_1]
            refine ih m _ _ (Nat.lt_succ_self _) ⟨j + 1, lw3 (tk B L) (tvn B L) q, acc ++ [(some ((sX (tk B L) (tvn B L) (sPass q)).2, (sX (tk B L) (tvn B L) (lw1 (tk B L) (tvn B L) q)).2), (sX (tk B L) (tvn B L) (lw2 (tk B L) (tvn B L) q)).2)], b + 1, c + (sX (tk B L) (tvn B L) (sPass q)).2.length + (sX (tk B L) (tvn B L) (lw1 (tk B L) (tvn B L) q)).2.length + (sX (tk B L) (tvn B L) (lw2 (tk B L) (tvn B L) q)).2.length, by omega, rfl, ⟨l9, hw3, fmT_trans hf F9 hcc hbb, ?_, by omega, by omega, by omega, fun z => ?_⟩, hq1, fun z => ?_, fun z => absurd z gm⟩
            · rw [f9.2.1 39 (by decide) (by decide) (by decide)]; exact h839
            · obtain ⟨z1, _, _, z4⟩ := sOnly_ok z
              obtain ⟨w1, _, w3, _, _, w6, _⟩ := sX_ok hV hw2.1.1 z1
              obtain ⟨v1, v2, v3, v4, v5, v6, v7⟩ := ok2 w1
              obtain ⟨u1, u2, u3, u4, u5, u6⟩ := ok1 v1
              obtain ⟨k81, k82, k83, k84⟩ := k8 z1
              have z4' : (lw3 (tk B L) (tvn B L) q).1 = (sX (tk B L) (tvn B L) (lw2 (tk B L) (tvn B L) q)).1.1 + 1 := by unfold lw3; rw [z4]
              have hw34 := hw3.1.1
              have hlen : (acc ++ [((some ((sX (tk B L) (tvn B L) (sPass q)).2, (sX (tk B L) (tvn B L) (lw1 (tk B L) (tvn B L) q)).2), (sX (tk B L) (tvn B L) (lw2 (tk B L) (tvn B L) q)).2) : lwB)]).length = acc.length + 1 := by rw [List.length_append]; rfl
              have hg := grow_brs (G' := Y9.1) obl.symm (by omega) (fun r r1 r3 i hi => F9.2.1 r r1 r3 i (Or.inl hi)) (fun i hi => F9.2.2.2.2 i (Or.inl hi)) obr obu
              have k930 : Y9.1 30 b = nI (c + (sX (tk B L) (tvn B L) (sPass q)).2.length + (sX (tk B L) (tvn B L) (lw1 (tk B L) (tvn B L) q)).2.length + (sX (tk B L) (tvn B L) (lw2 (tk B L) (tvn B L) q)).2.length) := by rw [f9.1 30 (by decide)]; exact k84
              refine ⟨?_, ?_, by omega, by omega, by omega, ?_, ?_⟩
              · rw [f9.2.1 12 (by decide) (by decide) (by decide)]; exact k81
              · rw [f9.2.1 45 (by decide) (by decide) (by decide)]; exact k82.1
              · refine brsAt_app acc b0 hg.1 ?_
                rw [← obl]
                have b130 : b / 130 = sd := by omega
                refine ⟨?_, c, ?_, ?_, ?_, k930, ⟨by omega, by omega, by omega⟩, ?_, ?_, ?_⟩
                · rw [f9.1 26 (by decide), h8q 26 (by decide) (by decide), f7.1 26 (by decide), f6.1 26 (by decide) (by decide) (by decide) (by decide), z5q 26 (by decide), f4.1 26 (by decide), f3.1 26 (by decide) (by decide) (by decide) (by decide)]; exact z226
                · rw [f9.1 27 (by decide), h8q 27 (by decide) (by decide), f7.1 27 (by decide), f6.1 27 (by decide) (by decide) (by decide) (by decide), z5q 27 (by decide), f4.1 27 (by decide), f3.1 27 (by decide) (by decide) (by decide) (by decide), z227]; exact c45
                · rw [f9.1 28 (by decide), h8q 28 (by decide) (by decide), f7.1 28 (by decide), f6.1 28 (by decide) (by decide) (by decide) (by decide), z528, ← z50]; exact u5
                · rw [f9.1 29 (by decide)]; exact k83
                · refine codeAt_ag _ c (fun i i1 i2 => ?_) u6
                  rw [f9.1 31 (by decide), f9.1 32 (by decide), (f8.2.2.2.2 i (Or.inl (by omega))).1, (f8.2.2.2.2 i (Or.inl (by omega))).2, f7.1 31 (by decide), f7.1 32 (by decide)]
                  exact f6.2.2.2 i (Or.inl i2)
                · refine codeAt_ag _ _ (fun i i1 i2 => ?_) v7
                  rw [f9.1 31 (by decide), f9.1 32 (by decide)]
                  exact f8.2.2.2.2 i (Or.inl i2)
                · rw [f9.1 31 (by decide), f9.1 32 (by decide)]; exact k82.2
              · intro i i1 i2
                rw [hlen] at i2
                by_cases e : i = b
                · exact ⟨_, Nat.le_refl _, by rw [e]; exact k930⟩
                · obtain ⟨y, v1', v2'⟩ := hg.2 i i1 (by omega)
                  exact ⟨y, by omega, v2'⟩
            · rw [hq2 z, List.append_assoc]; rfl
          · intro K3 hK3
            have ex1 := exprX (sd := sd) (c0 := c + (sX (tk B L) (tvn B L) (sPass q)).2.length) l5 hw1 (fmT_tk htT F5) hsd (fun z => by
              obtain ⟨u1, u2, u3, u4, u5, u6⟩ := ok1 z
              exact ⟨u4, u5, by omega⟩)
            refine ok_if (fun g => ?_) (fun g => ?_)
            · refine ok_bd ex1 ?_
              rintro V ⟨v1, v2, v3⟩
              exact hK3 V v1 v2 v3
            · have h0 : (lw1 (tk B L) (tvn B L) q).2.1 ≠ 0 := fun z => g (by rw [l5.1, z]; rfl)
              have e := sX_f (K := tk B L) (V := tvn B L) h0
              refine hK3 Y5 (by rw [e]; exact l5) fmE_rfl (fun z => ?_)
              rw [e] at z
              exact absurd z h0
      · rw [n30 g10]
        rw [lawR, if_neg (fun z => g10 z.2)] at hq1 hq2
        exact ok_pos rfl (hK1 T q acc b c hI hq1 hq2)
  · exact ok_neg (by rw [hI.1.1]; exact nI_ne0 (by omega) (by omega)) (toK1f g0)
