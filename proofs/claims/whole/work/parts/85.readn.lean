/-! the reference reads: the whole -/
def rdQ (B : Nat → Nat) (L lv : Nat) (E : sE) (S : qv_St) (z : qv_St × Int32) : Prop :=
  (∀ i, i < nT B L → ps B L i < L) ∧ ∃ c i, chk (tk B L) (tvn B L) (smN B L) (nT B L) c i ∧ c ≤ 5 ∧ z.2 = nI c ∧ z.1.1 0 17 = (if c = 0 then -1 else nI (tp B L i)) ∧ z.1.1 0 2 = 0 ∧ (∀ q, q ≠ 6 → q ≠ 8 → z.1.2 q = S.2 q) ∧ (c ≠ 0 → mS lv E.1 E.2.1 z.1.1 ∧ (∀ q, 33 < q → z.1.1 q = S.1 q) ∧ z.1.1 0 57 = S.1 0 57 ∧ z.1.1 0 65 = S.1 0 65) ∧ (c = 0 → mS (1 - lv) (dat (tk B L) (tvn B L) (nT B L)).1 (dat (tk B L) (tvn B L) (nT B L)).2 z.1.1 ∧ (∀ k, k < 32 → z.1.1 36 k = nI (R0 (dat (tk B L) (tvn B L) (nT B L)).1 k)) ∧ z.1.1 0 57 = 0 ∧ z.1.1 0 65 = 0 ∧ ∀ s, s < 3 → z.1.1 46 s = 0)
theorem readM {B : Nat → Nat} {L lv : Nat} {E : sE} {S : qv_St} (hm : mS lv E.1 E.2.1 S.1) (hvD : vD E.1) (hkM : kM S) (h2 : S.1 0 2 = nI L) (hL : L ≤ 2000) (hB : ∀ k, B k < 256) (hb : ∀ k, k < L → vp_nar .byte (S.1 1 k) &&& 255 = nI (B k)) : okk (fX12_read S) (rdQ B L lv E S) := by
  have hlv : lv ≤ 1 := hm.1
  have h18 : S.1 0 18 = nI lv := hm.2.1
  unfold fX12_read
  have hN5 := qN
  generalize qv_N = N at hN5 ⊢
  rw [h2]
  refine ok_bsi (fun S1 a1 a2 a3 a4 _ => ?_)
  refine ok_jj (fun (K1 : qv_St → Option (qv_St × Int32)) => ∀ T, (∀ q, q ≠ 2 → T.1 q = S1.1 q) → (∀ k, k < L → T.1 2 k = vp_nar .byte (S.1 1 k)) → T.2 = S.2 → okk (K1 T) (rdQ B L lv E S)) ?_ ?_
  · intro T tq tx t2
    refine ok_bsi (fun S3 b1 b2 b3 b4 _ => ?_)
    have c2 : S3.2 = S.2 := b4.trans t2
    have c0 : ∀ k, k ≠ 2 → k ≠ 4 → S3.1 0 k = S.1 0 k := fun k k1 k2 => by rw [b3 k k1, tq 0 (by decide)]; exact a3 k k2
    have cq : ∀ q, q ≠ 0 → q ≠ 2 → S3.1 q = S.1 q := fun q q1 q2 => by rw [b2 q q1, tq q q2]; exact a2 q q1
    have htx : txM B L S3 := ⟨by rw [b3 4 (by decide), tq 0 (by decide)]; exact a1, fun k hk => by rw [b2 2 (by decide), tx k hk]; exact hb k hk⟩
    refine ok_bd (cutM htx hB hL (fun k hk => by rw [c2]; exact hkM k hk)) ?_
    rintro S4 ⟨d1, d2, d3, d4, d5, d6⟩
    have hp : ∀ i, i < nT B L → ps B L i < L := fun i hi => (d1 i hi).1
    have hV : ∀ i, tvn B L i < 2 ^ 31 := fun i => by have := tvn_lt hL hp i; omega
    have htk4 : tkM' B L S4 := ⟨d1, d2, d3⟩
    refine ok_bsi (fun S5 e1 e2 e3 e4 _ => ?_)
    refine ok_bsi (fun S6 f1 f2 f3 f4 _ => ?_)
    refine ok_bsi (fun S7 g1 g2 g3 g4 _ => ?_)
    refine ok_bsi (fun S8 k1 k2 k3 k4 _ => ?_)
    have m18 : S8.1 0 18 = nI lv := by rw [k3 18 (by decide), g3 18 (by decide), f3 18 (by decide), e3 18 (by decide), d5 18 (by decide), c0 18 (by decide) (by decide)]; exact h18
    have hsub : (1 : Int32) - S8.1 0 18 = nI (1 - lv) := by rw [m18]; exact pk_sub (a := 1) hlv
    rw [hsub]
    generalize hsdd : 1 - lv = sd
    have hsd : sd ≤ 1 := by omega
    have hne : lv ≠ sd := by omega
    refine ok_bsi (fun S9 l1 l2 l3 l4 _ => ?_)
    refine ok_bsi (fun S10 n1 n2 n3 n4 _ => ?_)
    have n19 : S10.1 0 19 = nI sd := by rw [n3 19 (by decide)]; exact l1
    rw [n19]
    refine ok_bd (plainM hsd) ?_
    rintro S11 ⟨p1, p2, p3, p4, p5, p6⟩
    have p19 : S11.1 0 19 = nI sd := by rw [p4]; exact n19
    rw [p19]
    have h130 : (130 : Int32) * nI sd = nI (130 * sd) := by rw [show (130 : Int32) = nI 130 from rfl, pk_mul]
    have h420 : (420 : Int32) * nI sd = nI (420 * sd) := by rw [show (420 : Int32) = nI 420 from rfl, pk_mul]
    rw [h130]
    refine ok_bsi (fun S12 q1 q2 q3 q4 _ => ?_)
    rw [q3 19 (by decide), p19, h420]
    refine ok_bsi (fun S13 r1 r2 r3 r4 _ => ?_)
    -- what stands before the walk
    have Z0 : ∀ k, k ≠ 2 → k ≠ 4 → k ≠ 10 → k ≠ 11 → k ≠ 12 → k ≠ 13 → k ≠ 15 → k ≠ 19 → k ≠ 20 → k ≠ 39 → k ≠ 45 → S13.1 0 k = S.1 0 k := fun k k1' k2' k3' k4' k5' k6' k7' k8' k9' k10 k11 => by rw [r3 k k11, q3 k k10, p4, n3 k k9', l3 k k8', k3 k k7', g3 k k6', f3 k k5', e3 k k4', d5 k k3', c0 k k1' k2']
    have Zq : ∀ q, q ≠ 0 → S13.1 q = S11.1 q := fun q hq => by rw [r2 q hq, q2 q hq]
    have Zp : ∀ q, q ≠ 0 → S10.1 q = S4.1 q := fun q hq => by rw [n2 q hq, l2 q hq, k2 q hq, g2 q hq, f2 q hq, e2 q hq]
    have Z2 : S13.2 = S4.2 := by rw [r4, q4, p5, n4, l4, k4, g4, f4, e4]
    have Zx2 : ∀ q, q ≠ 6 → S13.2 q = S.2 q := fun q hq => by rw [Z2, d6 q hq, c2]
    have Zhi : ∀ q, 33 < q → S13.1 q = S.1 q := fun q hq => by rw [Zq q (by omega), p3.1 q (by omega) (Or.inr hq), Zp q (by omega), d4 q (by omega) (by omega) (by omega) (by omega), cq q (by omega) (by omega)]
    have Zsd : ∀ q, 9 ≤ q → q ≤ 32 → ∀ j, j / wid q ≠ sd → S13.1 q j = S.1 q j := fun q h9 h32 j hj => by rw [Zq q (by omega), p3.2.1 q h9 h32 j hj, Zp q (by omega), d4 q (by omega) (by omega) (by omega) (by omega), cq q (by omega) (by omega)]
    have z11 : S13.1 0 11 = 0 := by rw [r3 11 (by decide), q3 11 (by decide), p4, n3 11 (by decide), l3 11 (by decide), k3 11 (by decide), g3 11 (by decide), f3 11 (by decide)]; exact e1
    have z12 : S13.1 0 12 = 0 := by rw [r3 12 (by decide), q3 12 (by decide), p4, n3 12 (by decide), l3 12 (by decide), k3 12 (by decide), g3 12 (by decide)]; exact f1
    have z13 : S13.1 0 13 = 0 := by rw [r3 13 (by decide), q3 13 (by decide), p4, n3 13 (by decide), l3 13 (by decide), k3 13 (by decide)]; exact g1
    have z15 : S13.1 0 15 = 0 := by rw [r3 15 (by decide), q3 15 (by decide), p4, n3 15 (by decide), l3 15 (by decide)]; exact k1
    have z19 : S13.1 0 19 = nI sd := by rw [r3 19 (by decide), q3 19 (by decide)]; exact p19
    have z20 : S13.1 0 20 = 0 := by rw [r3 20 (by decide), q3 20 (by decide), p4]; exact n1
    have z39 : S13.1 0 39 = nI (130 * sd) := by rw [r3 39 (by decide)]; exact q1
    have z2' : S13.1 0 2 = 0 := by rw [r3 2 (by decide), q3 2 (by decide), p4, n3 2 (by decide), l3 2 (by decide), k3 2 (by decide), g3 2 (by decide), f3 2 (by decide), e3 2 (by decide), d5 2 (by decide)]; exact b1
    have htk : tkM' B L S13 := tkM_fr htk4 (by rw [Zq 3 (by decide), p6 3 (by decide), Zp 3 (by decide)]) (by rw [Zq 4 (by decide), p6 4 (by decide), Zp 4 (by decide)]) (by rw [Zq 5 (by decide), p6 5 (by decide), Zp 5 (by decide)]) (by rw [Z2])
    have hrS : rS B L sd 0 (0, 0, 0) S13 := by
      refine ⟨⟨z13, fun _ => z11, fun z => absurd rfl z⟩, gdT_0, Nat.zero_le _, htk, z19, z12, ⟨420 * sd, 130 * sd, r1, Nat.le_refl _, Nat.le_refl _, z39, Nat.le_refl _, by omega, fun k hk => ?_⟩, mDat_G (fun q h9 h23 => Zq q (by omega)) p1, z20, ⟨fun j hj => absurd hj (Nat.not_lt_zero _), fun i' hi' => absurd hi' (Nat.not_lt_zero _)⟩, 0, 0, Or.inl ⟨rfl, fun j hj => absurd hj (Nat.not_lt_zero _)⟩, by decide, z15, fun z => absurd rfl z⟩
      have e24 : S13.1 24 (3 * sd + k) = S13.1 25 (3 * sd + k) := by rw [Zq 24 (by decide), Zq 25 (by decide), (p2 k hk).1, (p2 k hk).2]
      exact ⟨Or.inl ⟨e24, rfl⟩, Or.inl e24⟩
    generalize hR : tR (tk B L) (tvn B L) 401 (0, 0, 0) (0, 0, 0) = R
    refine ok_jj (fun (K2 : qv_St → Option (qv_St × Int32)) => ∀ U, fmS sd S13 U → ((R.2.1 ≠ 0 ∧ R.2.1 ≤ 5 ∧ lM B L R U) ∨ (R.2.1 = 0 ∧ ∃ c, rS B L sd (nT B L) c U)) → okk (K2 U) (rdQ B L lv E S)) ?_ ?_
    · intro U uf uR
      have u2 : U.1 0 2 = 0 := by rw [uf.2.2.1 2 (by decide) (by decide) (by decide) (by decide) (by decide)]; exact z2'
      have ux2 : ∀ q, q ≠ 6 → q ≠ 8 → U.2 q = S.2 q := fun q h6 h8 => by rw [uf.2.2.2 q h8]; exact Zx2 q h6
      have u18 : U.1 0 18 = S.1 0 18 := by rw [uf.2.2.1 18 (by decide) (by decide) (by decide) (by decide) (by decide)]; exact Z0 18 (by decide) (by decide) (by decide) (by decide) (by decide) (by decide) (by decide) (by decide) (by decide) (by decide) (by decide)
      have u57 : U.1 0 57 = S.1 0 57 := by rw [uf.2.2.1 57 (by decide) (by decide) (by decide) (by decide) (by decide)]; exact Z0 57 (by decide) (by decide) (by decide) (by decide) (by decide) (by decide) (by decide) (by decide) (by decide) (by decide) (by decide)
      have u65 : U.1 0 65 = S.1 0 65 := by rw [uf.2.2.1 65 (by decide) (by decide) (by decide) (by decide) (by decide)]; exact Z0 65 (by decide) (by decide) (by decide) (by decide) (by decide) (by decide) (by decide) (by decide) (by decide) (by decide) (by decide)
      have uhi : ∀ q, 33 < q → U.1 q = S.1 q := fun q hq => by rw [uf.1 q (by omega) (Or.inr hq)]; exact Zhi q hq
      have usd : ∀ q, 9 ≤ q → q ≤ 32 → ∀ j, j / wid q ≠ sd → U.1 q j = S.1 q j := fun q h9 h32 j hj => by rw [uf.2.1 q h9 h32 j hj]; exact Zsd q h9 h32 j hj
      -- the place, and what is answered
      have bad : ∀ (c i : Nat) (V : qv_St) (x : Int32), chk (tk B L) (tvn B L) (smN B L) (nT B L) c i → c ≠ 0 → c ≤ 5 → V.1 0 17 = nI (tp B L i) → (∀ r, r ≠ 0 → V.1 r = U.1 r) → (∀ k, k ≠ 17 → V.1 0 k = U.1 0 k) → V.2 = U.2 → x = nI c → rdQ B L lv E S (V, x) := by
        intro c i V x hc c0' c5 v17 vq v0 v2 hx
        refine ⟨hp, c, i, hc, c5, hx, by rw [if_neg c0']; exact v17, by show V.1 0 2 = 0; rw [v0 2 (by decide)]; exact u2, fun q h6 h8 => by show V.2 q = S.2 q; rw [v2]; exact ux2 q h6 h8, fun _ => ⟨?_, fun q hq => by show V.1 q = S.1 q; rw [vq q (by omega)]; exact uhi q hq, by show V.1 0 57 = _; rw [v0 57 (by decide)]; exact u57, by show V.1 0 65 = _; rw [v0 65 (by decide)]; exact u65⟩, fun z => absurd z c0'⟩
        exact mS_live2 hm hvD (fun q h9 h32 j hj => by show V.1 q j = _; rw [vq q (by omega)]; exact usd q h9 h32 j hj) (by show V.1 0 18 = _; rw [v0 18 (by decide)]; exact u18) hne
      simp only [qj_e]
      rcases uR with ⟨g0, g5, gl⟩ | ⟨g0, c, gr⟩
      · have u13 : ¬ U.1 0 13 ≤ 0 := by rw [gl.1]; exact nI_nle (by omega) (by omega)
        refine ok_neg u13 ?_
        refine ok_bsi (fun V v1 v2 v3 v4 _ => ?_)
        refine ok_neg (by rw [v3 13 (by decide)]; exact u13) (ok_s ?_)
        refine bad R.2.1 R.2.2 V _ (Or.inl ⟨by rw [hR]; exact g0, by rw [hR], by rw [hR]⟩) g0 g5 (by rw [v1]; exact gl.2.2 g0) v2 v3 v4 (by rw [v3 13 (by decide)]; exact gl.1)
      · obtain ⟨s1, s2, s3, s4, s5, s6, ⟨cd, br, t1, t2', t3, t4, t5, t6, t7⟩, s8, s9, s10, wc, wi, ws, w5, w15, w16⟩ := gr
        have u13 : U.1 0 13 ≤ 0 := by rw [show U.1 0 13 = 0 from s1.1]; decide
        refine ok_pos u13 ?_
        by_cases gw : wc = 0
        · subst gw
          refine ok_pos (by rw [w15]; decide) ?_
          refine ok_bsi (fun V v1 v2 v3 v4 _ => ?_)
          refine ok_pos (by rw [v3 13 (by decide)]; exact u13) (ok_pos (by rw [v3 15 (by decide), w15]; decide) ?_)
          rw [v3 19 (by decide), s5]
          refine ok_bsi (fun X x1 x2 x3 x4 _ => ?_)
          have xq : ∀ q, q ≠ 0 → X.1 q = U.1 q := fun q hq => by rw [x2 q hq, v2 q hq]
          have hmS : mS sd (dat (tk B L) (tvn B L) (nT B L)).1 (dat (tk B L) (tvn B L) (nT B L)).2 X.1 := by
            obtain ⟨m2, m3, m4, m5, m6, m7, m8, m9, m10⟩ := mDat_G (G' := X.1) (fun q h9 h23 => xq q (by omega)) s8
            exact ⟨hsd, x1, m2, m3, m4, m5, m6, m7, m8, m9, m10, fun k hk => (mLaws_G (G' := X.1) (by omega) (by omega) (fun q h24 h32 => xq q (by omega)) t7 k hk).1⟩
          refine ok_bd (beginsM hsd x1 hmS.2.2.2.2.2.2.1 hmS.2.2.2.2.2.2.2.1) ?_
          rintro Y ⟨y1, y2, y3, y4⟩
          refine ok_bd keepsRowM ?_
          rintro W ⟨w1, w2, w3⟩
          refine ok_bsi (fun A a1' a2' a3' a4' _ => ?_)
          refine ok_bsi (fun C c1' c2' c3' c4' _ => ?_)
          have hCq : ∀ q, 9 ≤ q → q ≤ 32 → C.1 q = X.1 q := fun q h9 h32 => by rw [c2' q (by omega), a2' q (by omega), w3 q (by omega), y2 q (by omega) (by omega)]
          have hC0 : ∀ j, j ≠ 65 → j ≠ 57 → j ≠ 55 → C.1 0 j = X.1 0 j := fun j h65 h57 h55 => by rw [c3' j h65, a3' j h57, w3 0 (by decide), y3 j h55]
          refine ok_lp2 (fun n D x => ∃ j, n = 3 - j ∧ j ≤ 3 ∧ x = nI j ∧ (∀ s, s < j → D.1 46 s = 0) ∧ (∀ q, q ≠ 46 → D.1 q = C.1 q) ∧ D.2 = C.2) ?_ N 3 C 0 ⟨0, rfl, by decide, rfl, fun s hs => absurd hs (Nat.not_lt_zero _), fun _ _ => rfl, rfl⟩ (by omega)
          rintro self n D x ⟨j, rfl, hj, rfl, dz, dq, d2'⟩ ih
          by_cases g : j = 3
          · refine ok_pos (by rw [g]; decide) (ok_s ⟨hp, 0, wi, Or.inr ⟨by rw [hR]; exact g0, ws⟩, by decide, rfl, ?_, ?_, fun q h6 h8 => ?_, fun z => absurd rfl z, fun _ => ⟨?_, fun k hk => ?_, ?_, ?_, fun s hs => dz s (by omega)⟩⟩)
            · show D.1 0 17 = _
              rw [dq 0 (by decide), hC0 17 (by decide) (by decide) (by decide), x3 17 (by decide), v1, if_pos rfl]
            · show D.1 0 2 = 0
              rw [dq 0 (by decide), hC0 2 (by decide) (by decide) (by decide), x3 2 (by decide), v3 2 (by decide)]; exact u2
            · show D.2 q = S.2 q
              rw [d2', c4', a4', w1, y4, x4, v4]; exact ux2 q h6 h8
            · rw [hsdd]
              refine mS_G (fun q h9 h32 => ?_) ?_ hmS
              · show D.1 q = X.1 q
                rw [dq q (by omega)]; exact hCq q h9 h32
              · show D.1 0 18 = X.1 0 18
                rw [dq 0 (by decide)]; exact hC0 18 (by decide) (by decide) (by decide)
            · show D.1 36 k = _
              rw [dq 36 (by decide), c2' 36 (by decide), a2' 36 (by decide), w2 k hk, y1 k hk]; rfl
            · show D.1 0 57 = 0
              rw [dq 0 (by decide), c3' 57 (by decide)]; exact a1'
            · show D.1 0 65 = 0
              rw [dq 0 (by decide)]; exact c1'
          · refine ok_neg (show ¬ (3 : Int32) ≤ nI j from nI_ge (b := 3) (by omega) (by decide)) (ok_ck j rfl (by omega) (by decide) ?_)
            rw [qi_cl (by omega)]
            refine ok_bsi (fun F f1' f2' f3' f4' _ => ?_)
            rw [nI_1]
            refine ih (3 - (j + 1)) _ _ (by omega) ⟨j + 1, rfl, by omega, rfl, fun s hs => ?_, fun q hq => by rw [f2' q hq]; exact dq q hq, by rw [f4', d2']⟩
            by_cases e : s = j
            · rw [e]; exact f1'
            · rw [f3' s e]; exact dz s (by omega)
        · refine ok_neg (by rw [w15]; exact nI_nle (by omega) (by omega)) ?_
          refine ok_bsi (fun V v1 v2 v3 v4 _ => ?_)
          refine ok_pos (by rw [v3 13 (by decide)]; exact u13) (ok_neg (by rw [v3 15 (by decide), w15]; exact nI_nle (by omega) (by omega)) (ok_s ?_))
          exact bad wc wi V _ (Or.inr ⟨by rw [hR]; exact g0, ws⟩) gw w5 (by rw [v1]; exact w16 gw) v2 v3 v4 (by rw [v3 15 (by decide)]; exact w15)
    · intro K2 hK2
      refine ok_lp1 (fun n U => fmS sd S13 U ∧ ((∃ t c m, n = 401 - t ∧ rS B L sd t c U ∧ tR (tk B L) (tvn B L) m c (t, 0, 0) = R ∧ 401 ≤ m + t) ∨ (R.2.1 ≠ 0 ∧ R.2.1 ≤ 5 ∧ lM B L R U))) ?_ N 401 S13 ⟨fmS_rfl, Or.inl ⟨0, (0, 0, 0), 401, rfl, hrS, hR, Nat.le_refl _⟩⟩ (by omega)
      rintro self n U ⟨uf, uI⟩ ih
      rcases uI with ⟨t, c, m, rfl, ur, um, ut⟩ | ⟨g0, g5, gl⟩
      · have ul := ur.1
        have ug := ur.2.1
        have u4 := ug.2.1
        obtain ⟨b0, e0, y0, n0⟩ : ∃ b, fX12_is U 0 = some b ∧ (tk B L t = 24 → b = 1) ∧ (tk B L t ≠ 24 → b = 0) := isVal (k := 24) ul ⟨⟨u4, Nat.zero_le _⟩, fun _ => ur.2.2.1⟩ ur.2.2.2.1 rfl
        refine ok_pos ul.1 ?_
        rw [e0, Option.bind_some]
        by_cases g24 : tk B L t = 24
        · rw [y0 g24]
          refine ok_neg (by decide) (hK2 U uf (Or.inr ?_))
          have eR : (t, 0, 0) = R := by rw [← um]; exact (tR_f (Or.inr g24) m c).symm
          rw [← eR]
          have et := end_nT ug g24
          rw [et] at ur
          exact ⟨rfl, c, ur⟩
        · rw [n0 g24]
          refine ok_pos rfl (ok_bd (tellOneM hL hp hsd ur g24) ?_)
          rintro W ⟨w1, w2, w3⟩
          cases m with
          | zero => omega
          | succ m =>
            rw [tR, if_pos (show ((t, 0, 0) : pst).2.1 = 0 ∧ tk B L ((t, 0, 0) : pst).1 ≠ 24 from ⟨rfl, g24⟩)] at um
            by_cases gt : (tellS (tk B L) (tvn B L) c (t, 0, 0)).2.1 = 0
            · obtain ⟨t', e1', e2'⟩ := w3 gt
              obtain ⟨t1', f1', f2', f3', _⟩ := tellS_ok hV gt
              have ett : t1' = t' := by rw [e1'] at f1'; exact (congrArg Prod.fst f1').symm
              subst ett
              rw [e1'] at um
              exact ih (401 - t1') _ (by omega) ⟨fmS_trans uf w2, Or.inl ⟨t1', _, m, rfl, e2', um, by omega⟩⟩
            · rw [tR_f (Or.inl gt)] at um
              have h5 := (tellS_wf (K := tk B L) (V := tvn B L) (c := c) (p := (t, 0, 0)) ⟨u4, Nat.zero_le _⟩).2
              rw [um] at gt w1 h5
              exact ih 0 _ (by omega) ⟨fmS_trans uf w2, Or.inr ⟨gt, h5, w1⟩⟩
      · exact ok_neg (by rw [gl.1]; exact nI_ne0 (by omega) (by omega)) (hK2 U uf (Or.inl ⟨g0, g5, gl⟩))
  · intro K1 hK1
    refine ok_lp2 (fun n T x => ∃ j, n = 2000 - j ∧ j ≤ L ∧ x = nI j ∧ (∀ q, q ≠ 2 → T.1 q = S1.1 q) ∧ (∀ k, k < j → T.1 2 k = vp_nar .byte (S.1 1 k)) ∧ T.2 = S.2) ?_ N 2000 S1 0 ⟨0, rfl, Nat.zero_le _, rfl, fun _ _ => rfl, fun k hk => absurd hk (Nat.not_lt_zero _), a4⟩ (by omega)
    rintro self n T x ⟨j, rfl, hj, rfl, tq, tx, t2⟩ ih
    rw [tq 0 (by decide), a1]
    refine ok_if (fun g => ?_) (fun g => ?_)
    · have g := (nI_leI (by omega) (by omega)).mp g
      exact hK1 T tq (fun k hk => tx k (by omega)) t2
    · have g : ¬ L ≤ j := fun z => g (nI_le z (by omega))
      refine ok_ck j rfl (by omega) (by decide) (ok_ck j rfl (by omega) (by decide) ?_)
      rw [qi_cl (by omega), nI_1]
      refine ok_bsi (fun X x1 x2 x3 x4 _ => ?_)
      refine ih (2000 - (j + 1)) _ _ (by omega) ⟨j + 1, rfl, by omega, rfl, fun q hq => by rw [x2 q hq]; exact tq q hq, fun k hk => ?_, by rw [x4, t2]⟩
      by_cases e : k = j
      · rw [e, x1, tq 1 (by decide), a2 1 (by decide)]
      · rw [x3 k e]; exact tx k (by omega)
