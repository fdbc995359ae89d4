/-! visit -/
theorem cnt_le : ∀ m, m ≤ 5 → ∀ c, c < 2 ^ m → cnt c ≤ m := by decide
theorem or_in : ∀ u, u < 32 → ∀ i, i < 5 → (u ||| 2 ^ i = u ↔ inS u i = true) := by decide
def VI (E : sE) (p : Nat) (S : qv_St) (lo : Nat) (f : Nat → Nat) : Prop := (∀ c, c < 2 ^ (mD E) → lo < cnt c → S.1 266 c = nI (eM E p (cnt c) (f (cnt c)) c)) ∧ (lo < mD E → ∀ q, bO E p (f (mD E)) = some q → ∀ j, j < mD E → S.1 267 j = nI (duE E (q.1 / 5 ^ (mD E - 1 - j) % 5)))
theorem VI_congr {E : sE} {p : Nat} {S : qv_St} {lo : Nat} {f g : Nat → Nat} (h : ∀ k, lo < k → f k = g k) (hV : VI E p S lo f) : VI E p S lo g := by
  refine ⟨fun c h1 h2 => ?_, fun h1 => ?_⟩
  · rw [← h _ h2]; exact hV.1 c h1 h2
  · rw [← h _ h1]; exact hV.2 h1
theorem VI_skip {E : sE} {p : Nat} {S : qv_St} {d v : Nat} (hn : pf E p (d + 1) v = none) (hV : VI E p S d (fun k => v * 5 ^ (k - d - 1))) : VI E p S d (fun k => (v + 1) * 5 ^ (k - d - 1)) := by
  refine ⟨fun c h1 h2 => ?_, fun h1 => ?_⟩
  · rw [hV.1 c h1 h2]
    congr 1
    have := eM_pre (E := E) (p := p) (j := d + 1) (v := v) (t := cnt c - d - 1) (c := c) hn
    rw [show d + 1 + (cnt c - d - 1) = cnt c by omega] at this
    exact this.symm
  · have := bO_pre (E := E) (p := p) (j := d + 1) (v := v) (t := mD E - d - 1) hn (by omega)
    show ∀ q, bO E p ((v + 1) * 5 ^ (mD E - d - 1)) = some q → _
    rw [this]
    exact hV.2 h1
theorem VI_skips {E : sE} {p : Nat} {S : qv_St} {d w : Nat} {q : Nat × Nat} (hq : pf E p d w = some q) : ∀ t, mD E + t ≤ 5 → VI E p S d (fun k => (5 * w + mD E) * 5 ^ (k - d - 1)) → VI E p S d (fun k => (5 * w + mD E + t) * 5 ^ (k - d - 1))
  | 0, _, h => h
  | t + 1, ht, h => by
    have h1 := VI_skips hq t (by omega) h
    refine VI_congr (f := fun k => (5 * w + mD E + t + 1) * 5 ^ (k - d - 1)) (fun k _ => by rw [Nat.add_assoc (5 * w + mD E) t 1]) (VI_skip (v := 5 * w + mD E + t) ?_ h1)
    have e1 : (5 * w + mD E + t) / 5 = w := by omega
    have e2 : (5 * w + mD E + t) % 5 = mD E + t := by omega
    rw [pf_s (by rw [e1]; exact hq), e2, if_neg (by omega)]
theorem cp_eq {S : qv_St} {a sp b dp n : Nat} : (qv_cp S a sp b dp n).1 b = va_cpy (S.1 a) (S.1 b) sp dp n := by simp [qv_cp]
theorem keepC {E : sE} {S : qv_St} {c e v : Nat} (hm : S.1 263 7 = nI (mD E)) (hc : c < 32) (he : e < 2000000) (hv : v < 2000000) (h : S.1 266 c = nI v) : okk (fX3_keepIfSooner S (nI c) (nI e)) (fun z => (∀ q, q ≠ 266 → q ≠ 267 → z.1 q = S.1 q) ∧ z.2 = S.2 ∧ (∀ j, j ≠ c → z.1 266 j = S.1 266 j) ∧ z.1 266 c = nI (min v e) ∧ (e < v → c = 2 ^ (mD E) - 1 → ∀ j, j < mD E → z.1 267 j = S.1 265 j) ∧ (¬ (e < v ∧ c = 2 ^ (mD E) - 1) → z.1 267 = S.1 267)) := by
  unfold fX3_keepIfSooner fX3_all
  simp only [qb_e, Option.bind_some]
  have h5 := mD_le (E := E)
  have h32 : 2 ^ (mD E) ≤ 2 ^ 5 := Nat.pow_le_pow_right (by decide) h5
  have h0 : 0 < 2 ^ (mD E) := Nat.two_pow_pos _
  refine ok_ck c rfl hc (by decide) ?_
  rw [qi_cl (by omega), h]
  refine ok_if (fun g => ok_s ?_) (fun g => ?_)
  · have g := (nI_leI (by omega) (by omega)).mp g
    exact ⟨fun _ _ _ => rfl, rfl, fun _ _ => rfl, by rw [h, Nat.min_eq_left g], fun y => by omega, fun _ => rfl⟩
  · have g : ¬ v ≤ e := fun z => g (nI_le z (by omega))
    refine ok_ck c rfl hc (by decide) ?_
    have hm2 : (qv_si S 266 c (nI e)).1 263 7 = nI (mD E) := by rw [qs_si, qs_ne (by decide)]; exact hm
    rw [hm2, sh1m _ (by omega), qi_cl (by omega), tc0]
    have base : (∀ q, q ≠ 266 → q ≠ 267 → (qv_si S 266 c (nI e)).1 q = S.1 q) ∧ (qv_si S 266 c (nI e)).2 = S.2 ∧ (∀ j, j ≠ c → (qv_si S 266 c (nI e)).1 266 j = S.1 266 j) ∧ (qv_si S 266 c (nI e)).1 266 c = nI (min v e) := by
      rw [qs_si]
      exact ⟨fun q q1 _ => qs_ne q1, rfl, fun j hj => by rw [qs_eq, upd_ne hj], by rw [qs_eq, upd_eq, Nat.min_eq_right (by omega)]⟩
    refine ok_if (fun g2 => ?_) (fun g2 => ok_s ?_)
    · have g2 : c = 2 ^ (mD E) - 1 := (nI_eq (by omega) (by omega)).mp g2
      have hcq : ∀ (o : Option qv_St), qv_cq 0 0 (nI (mD E)) 5 5 o = o := by
        intro o
        unfold qv_cq
        rw [if_neg]
        rintro (z | z | z | z | z)
        · exact absurd z (by decide)
        · exact absurd z (by decide)
        · exact nI_pos (by omega) z
        · rw [tc0, qi_cl (by omega)] at z; omega
        · rw [tc0, qi_cl (by omega)] at z; omega
      rw [hcq]
      refine ok_s ⟨fun q q1 q2 => ?_, base.2.1, fun j hj => ?_, ?_, fun _ _ j hj => ?_, fun y => absurd ⟨by omega, g2⟩ y⟩
      · have := (qv_cp_ne (S := qv_si S 266 c (nI e)) (a := 265) (sp := 0) (b := 267) (dp := 0) (n := mD E) q q2).1
        rw [this]; exact base.1 q q1 q2
      · have := (qv_cp_ne (S := qv_si S 266 c (nI e)) (a := 265) (sp := 0) (b := 267) (dp := 0) (n := mD E) 266 (by decide)).1
        rw [this]; exact base.2.2.1 j hj
      · have := (qv_cp_ne (S := qv_si S 266 c (nI e)) (a := 265) (sp := 0) (b := 267) (dp := 0) (n := mD E) 266 (by decide)).1
        rw [this]; exact base.2.2.2
      · rw [cp_eq, pk_cpy_in (by omega) (by omega), Nat.zero_add, Nat.sub_zero, base.1 265 (by decide) (by decide)]
    · have g2 : ¬ c = 2 ^ (mD E) - 1 := fun z => g2 (by rw [z])
      exact ⟨base.1, base.2.1, base.2.2.1, base.2.2.2, fun _ y => absurd y g2, fun _ => by rw [qs_si, qs_ne (by decide)]⟩
theorem fX3_visit_s {d : Nat} {S0 : qv_St} {x1 x2 x3 : Int32} : fX3_visit (d + 1) S0 x1 x2 x3 = if x1 < (S0.1 263 7) then
      qv_lp2 qv_N (fun self_1 (S_1 : qv_St) (x4_1 : Int32) =>
        if (S_1.1 263 7) ≤ x4_1 then
          some S_1
        else
          qv_b ((x2 ||| (1 <<< (x4_1 &&& 31))) : Int32) fun x5_1 =>
          qv_j (fun (S_2 : qv_St) (t_1 : Int32) =>
            qv_j (fun (S_3 : qv_St) =>
              self_1 S_3 (x4_1 + 1)) fun K_2 =>
            if t_1 < 0 then
              K_2 S_2
            else
              qv_ck x4_1 5 <|
              qv_ck x1 5 <| qv_b (qv_si S_2 265 (Int32.toNatClampNeg x1) (S_2.1 264 (Int32.toNatClampNeg x4_1))) fun S_4 =>
              qv_ck x4_1 5 <|
              qv_ck (S_4.1 264 (Int32.toNatClampNeg x4_1)) 6 <|
              qv_b ((t_1 + (S_4.1 17 (Int32.toNatClampNeg (S_4.1 264 (Int32.toNatClampNeg x4_1))))) : Int32) fun x7_1 =>
              (fX3_keepIfSooner S_4 x5_1 x7_1).bind fun S_5 =>
              (fX3_visit d S_5 (x1 + 1) x5_1 x7_1).bind fun S_6 =>
              K_2 S_6) fun K_1 =>
          if x5_1 = x2 then
            K_1 S_1 (-2)
          else
            qv_ck x4_1 5 <|
            qv_cm (fX7_firstGood S_1 (S_1.1 264 (Int32.toNatClampNeg x4_1)) x3 (x3 + 300)) fun S_7 r_1 =>
            K_1 S_7 r_1) S0 0
    else
      some S0 := by rw [fX3_visit]
def VP (E : sE) (p d w : Nat) (S z : qv_St) : Prop := SV E p z ∧ PL E z ∧ VI E p z d (fun k => (w + 1) * 5 ^ (k - d)) ∧ (∀ c, c < 2 ^ (mD E) → cnt c ≤ d → z.1 266 c = S.1 266 c) ∧ (∀ j, j < d → z.1 265 j = S.1 265 j) ∧ (d = mD E → z.1 267 = S.1 267) ∧ frE S z
theorem PL_fr {E : sE} {S T : qv_St} (h : PL E S) (h1 : T.1 263 = S.1 263) (h2 : T.1 264 = S.1 264) : PL E T := ⟨by rw [h1]; exact h.1, fun j hj => by rw [h2]; exact h.2 j hj⟩
theorem VI_fr {E : sE} {p : Nat} {S T : qv_St} {d : Nat} {f : Nat → Nat} (h : VI E p S d f) (h1 : T.1 266 = S.1 266) (h2 : T.1 267 = S.1 267) : VI E p T d f := ⟨fun c a b => by rw [h1]; exact h.1 c a b, fun a q b j c => by rw [h2]; exact h.2 a q b j c⟩
theorem visitC {E : sE} {p : Nat} (hv : vE E) : ∀ (r d w u e fuel : Nat) (S : qv_St), d + r = mD E → r < fuel → pf E p d w = some (u, e) → SV E p S → PL E S → (∀ j, j < d → S.1 265 j = nI (duE E (w / 5 ^ (d - 1 - j) % 5))) → VI E p S d (fun k => w * 5 ^ (k - d)) → okk (fX3_visit fuel S (nI d) (nI u) (nI e)) (fun z => VP E p d w S z) := by
  intro r
  induction r with
  | zero =>
    intro d w u e fuel S hr hfu hpf hS hP htr hV
    obtain ⟨f, rfl⟩ : ∃ f, fuel = f + 1 := ⟨fuel - 1, by omega⟩
    have h5 := mD_le (E := E)
    have hdm : d = mD E := by omega
    rw [fX3_visit_s]
    refine ok_neg (by rw [hP.1, hdm]; exact Int32.lt_irrefl) (ok_s ⟨hS, hP, ⟨fun c h1 h2 => ?_, fun h1 => by omega⟩, fun _ _ _ => rfl, fun _ _ => rfl, fun _ => rfl, frE_rf⟩)
    have := cnt_le _ h5 c h1
    omega
  | succ r IH =>
    intro d w u e fuel S hr hfu hpf hS hP htr hV
    obtain ⟨f, rfl⟩ : ∃ f, fuel = f + 1 := ⟨fuel - 1, by omega⟩
    have h5 := mD_le (E := E)
    have h32 : 2 ^ (mD E) ≤ 2 ^ 5 := Nat.pow_le_pow_right (by decide) h5
    obtain ⟨hu1, hu2, hu3⟩ := pf_b hv _ _ _ hpf
    have hu1 : u < 2 ^ (mD E) := hu1
    have hu2 : e ≤ 309 * d := hu2
    have hu3 : cnt u = d := hu3
    rw [fX3_visit_s]
    have hN5 := qN
    generalize qv_N = N at hN5 ⊢
    simp only [qj_e, qb_e]
    refine ok_pos (by rw [hP.1]; exact nI_lt (by omega) (by omega)) ?_
    refine ok_lp2 (fun m T x => ∃ i, m = mD E - i ∧ i ≤ mD E ∧ x = nI i ∧ SV E p T ∧ PL E T ∧ VI E p T d (fun k => (5 * w + i) * 5 ^ (k - d - 1)) ∧ (∀ c, c < 2 ^ (mD E) → cnt c ≤ d → T.1 266 c = S.1 266 c) ∧ (∀ j, j < d → T.1 265 j = S.1 265 j) ∧ frE S T) ?_ N (mD E) S 0 ⟨0, rfl, by omega, rfl, hS, hP, VI_congr (fun k hk => ?_) hV, fun _ _ _ => rfl, fun _ _ => rfl, frE_rf⟩ (by omega)
    rotate_left
    · show w * 5 ^ (k - d) = (5 * w + 0) * 5 ^ (k - d - 1)
      rw [show k - d = (k - d - 1) + 1 by omega, Nat.pow_succ, Nat.add_zero, Nat.mul_comm (5 ^ _) 5, ← Nat.mul_assoc, Nat.mul_comm w 5]
      rfl
    rintro self m T x ⟨i, rfl, hi, rfl, hT, hPT, hVT, hlow, htrT, hfT⟩ ih
    rw [hPT.1]
    by_cases ei : i = mD E
    · refine ok_pos (by rw [ei]; exact Int32.le_refl _) (ok_s ⟨hT, hPT, ?_, hlow, htrT, fun z => by omega, hfT⟩)
      subst ei
      have h1 := VI_skips hpf (5 - mD E) (by omega) hVT
      refine VI_congr (fun k hk => ?_) h1
      show (5 * w + mD E + (5 - mD E)) * 5 ^ (k - d - 1) = (w + 1) * 5 ^ (k - d)
      rw [show 5 * w + mD E + (5 - mD E) = (w + 1) * 5 by omega, show k - d = (k - d - 1) + 1 by omega, Nat.pow_succ, Nat.mul_assoc, Nat.mul_comm 5]
      rfl
    · have him : i < mD E := by omega
      have e1 : (5 * w + i) / 5 = w := by omega
      have e2 : (5 * w + i) % 5 = i := by omega
      have hps := pf_s (E := E) (p := p) (j := d) (w := 5 * w + i) (q := (u, e)) (by rw [e1]; exact hpf)
      rw [e2] at hps
      have hdu := duE_lt him
      have h6 := hv.1.2.2.1
      refine ok_neg (nI_ge (by omega) (by omega)) ?_
      rw [sh1 i (by omega), nI_or, qi_cl (show i < 2 ^ 31 by omega), qi_cl (show d < 2 ^ 31 by omega), hPT.2 i him, nI_1 i, nI_1 d]
      have hskip : ∀ U : qv_St, SV E p U → frD T U → pf E p (d + 1) (5 * w + i) = none → okk (self U (nI (i + 1))) (fun z => VP E p d w S z) := by
        intro U hU hfU hn
        have g : ∀ q, 262 < q → U.1 q = T.1 q := fun q hq => hfU.2 q (by omega) (by omega) (by omega) (by omega)
        refine ih (mD E - (i + 1)) _ _ (by omega) ⟨i + 1, rfl, by omega, rfl, hU, PL_fr hPT (g 263 (by decide)) (g 264 (by decide)), VI_fr (VI_congr (f := fun k => (5 * w + i + 1) * 5 ^ (k - d - 1)) (fun k _ => by rw [Nat.add_assoc (5 * w) i 1]) (VI_skip hn hVT)) (g 266 (by decide)) (g 267 (by decide)), fun c a b => by rw [g 266 (by decide)]; exact hlow c a b, fun j hj => by rw [g 265 (by decide)]; exact htrT j hj, frE_tr hfT (frE_D hfU)⟩
      by_cases hin : inS u i = true
      · refine ok_pos (by rw [(or_in u (by omega) i (by omega)).mpr hin]) (ok_pos (by decide) (hskip T hT frD_rf ?_))
        rw [hps, if_neg (fun z => by have : inS u i = false := z.2; rw [hin] at this; cases this)]
      · have hin : inS u i = false := by simpa using hin
        have hule : u ||| 2 ^ i < 2 ^ (mD E) := Nat.or_lt_two_pow hu1 (Nat.pow_lt_pow_right (by decide) him)
        refine ok_neg (fun z => ?_) (ok_ck i rfl (by omega) (by decide) ?_)
        · have := (nI_eq (by omega) (by omega)).mp z
          rw [(or_in u (by omega) i (by omega)).mp this] at hin
          cases hin
        have hL := hv.1.2.2.2.2.2.2.2.2 _ hdu
        refine ok_cm (goodC hT hdu (a := e) (b := e + 301) (by rw [show (300 : Int32) = nI 300 from rfl, nI_add, show e + 301 = e + 300 + 1 by omega, nI_pred]) (by omega) (by omega)) ?_
        rintro S7 rr ⟨hrr, hS7, hf7⟩
        have hS7 : SV E p S7 := hS7
        have hf7 : frD T S7 := hf7
        have hrr : rr = _ := hrr
        rw [show e + 301 - e = 301 by omega] at hrr
        have g7 : ∀ q, 262 < q → S7.1 q = T.1 q := fun q hq => hf7.2 q (by omega) (by omega) (by omega) (by omega)
        by_cases hfs : fs (fun n => goE E p (duE E i) n) e 301 < e + 301
        · rw [if_pos hfs] at hrr
          subst hrr
          have hnx : nxE E p i e = some (fs (fun n => goE E p (duE E i) n) e 301 + E.1 17 (duE E i)) := by unfold nxE; rw [if_pos hfs]
          generalize hb : fs (fun n => goE E p (duE E i) n) e 301 = b at hfs hnx
          have hpf2 : pf E p (d + 1) (5 * w + i) = some (u ||| 2 ^ i, b + E.1 17 (duE E i)) := by
            rw [hps, if_pos ⟨him, hin⟩]
            show (nxE E p i e).map _ = _
            rw [hnx]; rfl
          obtain ⟨k1, k2, k3⟩ := pf_b hv _ _ _ hpf2
          have k3 : cnt (u ||| 2 ^ i) = d + 1 := k3
          refine ok_neg (nI_pos (by omega)) (ok_ck i rfl (by omega) (by decide) (ok_ck d rfl (by omega) (by decide) (ok_ck i rfl (by omega) (by decide) ?_)))
          have hP7 : PL E S7 := PL_fr hPT (g7 263 (by decide)) (g7 264 (by decide))
          have q264 : (qv_si S7 265 d (S7.1 264 i)).1 264 i = nI (duE E i) := by rw [qs_si, qs_ne (by decide)]; exact hP7.2 i him
          have q17 : (qv_si S7 265 d (S7.1 264 i)).1 17 (duE E i) = nI (E.1 17 (duE E i)) := by rw [qs_si, qs_ne (by decide)]; exact (hS7.2.1.1.2.2.2.2.2.2.2.2.1 _ hdu).1
          rw [q264, qi_cl (by omega), q17, nI_add]
          refine ok_ck (duE E i) rfl (by omega) (by decide) ?_
          generalize hU : qv_si S7 265 d (S7.1 264 i) = U
          have gU : ∀ q, q ≠ 265 → U.1 q = S7.1 q := fun q hq => by rw [← hU, qs_si, qs_ne hq]
          have gU2 : U.2 = S7.2 := by rw [← hU]; rfl
          have trU : ∀ j, j < d + 1 → U.1 265 j = nI (duE E ((5 * w + i) / 5 ^ (d + 1 - 1 - j) % 5)) := by
            intro j hj
            rw [← hU, qs_si, qs_eq]
            by_cases ej : j = d
            · rw [ej, upd_eq, hP7.2 i him, show d + 1 - 1 - d = 0 by omega, Nat.pow_zero, Nat.div_one, e2]
            · rw [upd_ne ej, g7 265 (by decide), htrT j (by omega), htr j (by omega)]
              congr 2
              rw [show d + 1 - 1 - j = (d - 1 - j) + 1 by omega, Nat.pow_succ, Nat.mul_comm (5 ^ (d - 1 - j)) 5, ← Nat.div_div_eq_div_mul, e1]
          have h266 : U.1 266 = T.1 266 := by rw [gU 266 (by decide), g7 266 (by decide)]
          have h267 : U.1 267 = T.1 267 := by rw [gU 267 (by decide), g7 267 (by decide)]
          have hv266 : U.1 266 (u ||| 2 ^ i) = nI (eM E p (d + 1) (5 * w + i) (u ||| 2 ^ i)) := by
            have := hVT.1 (u ||| 2 ^ i) hule (by rw [k3]; omega)
            rw [h266, this, k3]
            congr 2
            show (5 * w + i) * 5 ^ (d + 1 - d - 1) = 5 * w + i
            rw [show d + 1 - d - 1 = 0 by omega, Nat.pow_zero, Nat.mul_one]
          have hor := eM_or hv (p := p) (k := d + 1) (c := u ||| 2 ^ i) (by omega) (5 * w + i)
          have hP_U : PL E U := PL_fr hP7 (gU 263 (by decide)) (gU 264 (by decide))
          refine ok_bd (keepC hP_U.1 (by omega) (by omega) (by omega) hv266) ?_
          rintro V ⟨v1, v2, v3, v4, v5, v6⟩
          have hSU : SV E p U := SV_keep hS7 (fun q hq => gU q (by omega))
          have hSVV : SV E p V := SV_keep hSU (fun q hq => v1 q (by omega) (by omega))
          have hPV : PL E V := PL_fr hP_U (v1 263 (by decide) (by decide)) (v1 264 (by decide) (by decide))
          have hVV : VI E p V (d + 1) (fun k => (5 * w + i) * 5 ^ (k - (d + 1))) := by
            refine ⟨fun c c1 c2 => ?_, fun c1 => ?_⟩
            · have hne : c ≠ u ||| 2 ^ i := fun z => by rw [z, k3] at c2; omega
              rw [v3 c hne, h266, hVT.1 c c1 (by omega)]
              congr 2
            · have hne : ¬ (b + E.1 17 (duE E i) < eM E p (d + 1) (5 * w + i) (u ||| 2 ^ i) ∧ u ||| 2 ^ i = 2 ^ (mD E) - 1) := by
                rintro ⟨_, z⟩
                have := cnt_all _ h5
                rw [← z, k3] at this
                omega
              rw [v6 hne, h267]
              have := hVT.2 (by omega)
              have e9 : (5 * w + i) * 5 ^ (mD E - (d + 1)) = (5 * w + i) * 5 ^ (mD E - d - 1) := by rw [Nat.sub_sub]
              show ∀ q, bO E p ((5 * w + i) * 5 ^ (mD E - (d + 1))) = some q → _
              rw [e9]
              exact this
          refine ok_bd (IH (d + 1) (5 * w + i) (u ||| 2 ^ i) (b + E.1 17 (duE E i)) f V (by omega) (by omega) hpf2 hSVV hPV (fun j hj => by rw [v1 265 (by decide) (by decide)]; exact trU j hj) hVV) ?_
          rintro Z ⟨z1, z2, z3, z4, z5, z6, z7⟩
          refine ih (mD E - (i + 1)) _ _ (by omega) ⟨i + 1, rfl, by omega, rfl, z1, z2, ⟨fun c c1 c2 => ?_, fun c1 => ?_⟩, fun c c1 c2 => ?_, fun j hj => ?_, ?_⟩
          · by_cases hcd : cnt c = d + 1
            · rw [z4 c c1 (by omega), hcd]
              show _ = nI (eM E p (d + 1) ((5 * w + i + 1) * 5 ^ (d + 1 - d - 1)) c)
              rw [show d + 1 - d - 1 = 0 by omega, Nat.pow_zero, Nat.mul_one, eM_s hpf2]
              by_cases hcu : c = u ||| 2 ^ i
              · rw [hcu, v4]
                congr 1
                by_cases hlt : b + E.1 17 (duE E i) < eM E p (d + 1) (5 * w + i) (u ||| 2 ^ i)
                · rw [if_pos ⟨rfl, hlt⟩, Nat.min_eq_right (by omega)]
                · rw [if_neg (fun y => hlt y.2), Nat.min_eq_left (by omega)]
              · rw [if_neg (fun y => hcu y.1.symm), v3 c hcu, h266, hVT.1 c c1 (by omega), hcd]
                congr 2
                show (5 * w + i) * 5 ^ (d + 1 - d - 1) = 5 * w + i
                rw [show d + 1 - d - 1 = 0 by omega, Nat.pow_zero, Nat.mul_one]
            · rw [z3.1 c c1 (by omega)]
              congr 2
          · by_cases hdm : d + 1 = mD E
            · show ∀ q, bO E p ((5 * w + (i + 1)) * 5 ^ (mD E - d - 1)) = some q → _
              rw [show mD E - d - 1 = 0 by omega, Nat.pow_zero, Nat.mul_one, z6 hdm]
              have hfull : u ||| 2 ^ i = 2 ^ (mD E) - 1 := cnt_full _ h5 _ hule (by rw [k3, hdm])
              have hbo := bO_eM hv (p := p) (5 * w + i)
              rw [← hfull, ← hdm] at hbo
              have hbs : bO E p (5 * w + (i + 1)) = match bO E p (5 * w + i) with
                  | none => some (5 * w + i, b + E.1 17 (duE E i))
                  | some q => if b + E.1 17 (duE E i) < q.2 then some (5 * w + i, b + E.1 17 (duE E i)) else some q := by
                show bO E p (5 * w + i + 1) = _
                rw [bO, ← hdm, hpf2]
                rfl
              have hnew : b + E.1 17 (duE E i) < eM E p (d + 1) (5 * w + i) (u ||| 2 ^ i) → ∀ j, j < mD E → V.1 267 j = nI (duE E ((5 * w + i) / 5 ^ (mD E - 1 - j) % 5)) := by
                intro hlt j hj
                rw [v5 hlt hfull j hj, trU j (by omega), hdm]
              have hold : ¬ b + E.1 17 (duE E i) < eM E p (d + 1) (5 * w + i) (u ||| 2 ^ i) → V.1 267 = T.1 267 := by
                intro hlt
                rw [v6 (fun y => hlt y.1), h267]
              intro q hq
              rcases hbo with ⟨g1, g2⟩ | ⟨q2, g1, g2, g3, _⟩
              · rw [hbs, g1] at hq
                cases hq
                exact hnew (by rw [g2]; omega)
              · rw [hbs, g1] at hq
                have hq : (if b + E.1 17 (duE E i) < q2.2 then some (5 * w + i, b + E.1 17 (duE E i)) else some q2) = some q := hq
                by_cases hlt : b + E.1 17 (duE E i) < q2.2
                · rw [if_pos hlt] at hq
                  cases hq
                  exact hnew (by rw [g2]; exact hlt)
                · rw [if_neg hlt] at hq
                  have hqq : q2 = q := Option.some.inj hq
                  rw [← hqq, hold (by rw [g2]; exact hlt)]
                  have := hVT.2 (by omega) q2
                  have h9 : bO E p ((5 * w + i) * 5 ^ (mD E - d - 1)) = some q2 := by rw [show mD E - d - 1 = 0 by omega, Nat.pow_zero, Nat.mul_one]; exact g1
                  exact this h9
            · have := z3.2 (by omega)
              show ∀ q, bO E p ((5 * w + (i + 1)) * 5 ^ (mD E - d - 1)) = some q → _
              have e9 : (5 * w + (i + 1)) * 5 ^ (mD E - d - 1) = (5 * w + i + 1) * 5 ^ (mD E - (d + 1)) := by rw [Nat.sub_sub]; rfl
              rw [e9]
              exact this
          · have hne : c ≠ u ||| 2 ^ i := fun z => by rw [z, k3] at c2; omega
            rw [z4 c c1 (by omega), v3 c hne, h266]
            exact hlow c c1 c2
          · rw [z5 j (by omega), v1 265 (by decide) (by decide), ← hU, qs_si, qs_eq, upd_ne (by omega), g7 265 (by decide)]
            exact htrT j hj
          · refine frE_tr hfT (frE_tr (frE_D hf7) (frE_tr ⟨gU2, fun q _ _ _ q4 => gU q (by omega)⟩ (frE_tr ⟨v2, fun q _ _ _ q4 => v1 q (by omega) (by omega)⟩ z7)))
        · rw [if_neg hfs] at hrr
          subst hrr
          refine ok_pos (by decide) (hskip S7 hS7 hf7 ?_)
          rw [hps, if_pos ⟨him, hin⟩]
          show (nxE E p i e).map _ = _
          unfold nxE
          rw [if_neg hfs]
          rfl
