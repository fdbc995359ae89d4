/-! bears, noise, shot, best, bribe, breakOff, join -/
def wE (E : sE) : Prop := vE E ∧ (∀ k, k < 32 → E.2.2.2 k ≤ 900000) ∧ (E.1 9 1 = 0 ∨ E.2.2.2 1 < E.1 9 1) ∧ (∀ s, E.1 9 2 ≤ s → s < 6 → E.2.2.2 (18 + s) = 0) ∧ (∀ s, s < 6 → E.2.2.2 (12 + s) < 512)
theorem call_bears {E : sE} {lv : Nat} {S1 S2 : qv_St} (h1 : qC E S1) (h2 : qM lv E S2) (a b : Int32) : ask2 E S1 S2 (fX11_bears S1 a b) (fX12_bears S2 a b) := by
  unfold fX11_bears fX12_bears
  rcases shI (x := a) h1 h2 with ⟨e1, e2⟩ | ⟨s, hs, rfl, e1, e2⟩
  · rw [e1, e2, b0, b0, if_pos rfl, if_pos rfl]; exact ask2_no h1
  rw [e1, e2, b1, b1, if_neg n10, if_neg n10]
  have hv := h1.1
  have h6 := hv.1.2.2.1
  have h0 := hv.2.2 0 (by decide)
  have hL := hv.1.2.2.2.2.2.2.2.2 s hs
  rw [qi_ck (by omega) (by decide), qi_cl (by omega), (h1.2.1.1.2.2.2.2.2.2.2.2.1 s hs).1, longM h2.2.1 hv hs, Option.bind_some, withinC, inM]
  rcases wI_n b (n := E.1 17 s) (by omega) with g | ⟨k, hk, rfl, g⟩
  · rw [g, b0, b0, if_pos rfl, if_pos rfl]; exact ask2_no h1
  rw [g, b1, b1, if_neg n10, if_neg n10]
  refine ask2_mk (nI (beE E s k (E.2.2.2 0 + k))) ?_ ?_
  · rw [h1.2.1.2.1.1, nI_add]
    refine ok_cm (borneC h1.2.1 hv hs) ?_
    rintro S5 r ⟨hr, hC5, hf5⟩
    exact ok_s ⟨hr, qC_fr h1 hC5 hf5, frE_C hf5⟩
  · refine ok_bd (copiesQ h2) ?_
    rintro T ⟨hT, hf⟩
    rw [tc0, hT.2.1 0 (by decide), nI_add]
    refine ok_ck 0 rfl (by decide) (by decide) (ok_cm (bearsM hT hv hs) ?_)
    rintro S5 r ⟨hr, hf5⟩
    exact ok_s ⟨hr, frQ_tr hf (frQ_B hf5)⟩
theorem swI (x : Int32) (m : Nat) (hm : m < 1000) : (∀ (ρ : Type) (os : List (Option ρ)) (d : Option ρ), qv_sw x 0 m os d = d) ∨ ∃ j, j ≤ m ∧ x = nI j ∧ ∀ (ρ : Type) (os : List (Option ρ)) (d : Option ρ), qv_sw x 0 m os d = (os[j]?).getD none := by
  by_cases h : x.toInt < 0 ∨ (m : Int) < x.toInt
  · exact Or.inl (fun ρ os d => by unfold qv_sw; rw [if_pos h])
  · have h0 : ¬ x < 0 := fun z => h (Or.inl (Int32.lt_iff_toInt_lt.mp z))
    obtain ⟨j, hj, rfl⟩ := nI_of h0
    rw [nI_toInt hj] at h
    refine Or.inr ⟨j, by omega, rfl, fun ρ os d => ?_⟩
    unfold qv_sw
    rw [nI_toInt hj, if_neg h]
    congr 2
theorem ageNowC {E : sE} {S : qv_St} {k : Nat} (h : HC E S) (hv : vE E) (hk : k < E.1 9 0) : okk (fX11_ageNow S (nI k)) (fun z => z.2 = enc (-2) (agE E k (E.2.2.2 0)) ∧ HC E z.1 ∧ frC S z.1) := by
  unfold fX11_ageNow
  have h8 := hv.1.1
  have h0 := hv.2.2 0 (by decide)
  have hpd := hv.2.2 (4 + k) (by omega)
  rw [h.2.1.1, qi_cl (by omega), h.2.1.2.2.2.2.1 k (by omega)]
  refine ok_ck k rfl (by omega) (by decide) (ok_cm (ageC2 h hv hk (by omega) (by omega)) ?_)
  rintro S5 r ⟨hr, hC5, hf5⟩
  exact ok_s ⟨hr, hC5, hf5⟩
theorem isOnM {lv : Nat} {E : sE} {S : qv_St} {k : Nat} (h : HM lv E S) (hv : vE E) (hk : k < E.1 9 0) : fX12_isOn S (nI k) = some (if (agE E k (E.2.2.2 0)).isSome = true then 1 else 0) := by
  unfold fX12_isOn
  have h0 := hv.2.2 0 (by decide)
  rw [ck_c (by decide), tc0, h.2.1 0 (by decide), ageNowM h hv hk (by omega), Option.bind_some]
  cases ha : agE E k (E.2.2.2 0) with
  | none => rw [enc_n, if_neg (by decide)]; rfl
  | some a =>
    have := agE_lt hv hk ha
    rw [enc_s, if_pos (nI_pos' (by omega))]
    rfl
theorem call_noise {E : sE} {lv : Nat} {S1 S2 : qv_St} (h1 : qC E S1) (h2 : qM lv E S2) (a b : Int32) : ask2 E S1 S2 (fX11_noise S1 a b) (fX12_noise S2 a b) := by
  unfold fX11_noise fX12_noise
  rcases noI (x := a) h1 h2 with ⟨e1, e2⟩ | ⟨k, hk, rfl, e1, e2⟩
  · rw [e1, e2, b0, b0, if_pos rfl, if_pos rfl]; exact ask2_no h1
  rw [e1, e2, b1, b1, if_neg n10, if_neg n10]
  have hv := h1.1
  have h8 := hv.1.1
  have h0 := hv.2.2 0 (by decide)
  obtain ⟨d1, d2, d3, d4, d5, d6, d7, d8⟩ := hv.1.2.2.2.2.2.2.1 k hk
  obtain ⟨T, eT, hT, hf⟩ := copiesQ h2
  rw [eT, Option.bind_some, qb_e, hT.1.2.1]
  have hix : 8 * nI lv + nI k = nI (8 * lv + k) := by rw [show (8 : Int32) = nI 8 from rfl, pk_mul, nI_add]
  have e4 : 4 + nI k = nI (4 + k) := nI_add 4 k
  have hlv := hT.1.1
  have cC : ∀ {ρ : Type} {o : Option ρ}, qv_ck (nI k) 8 o = o := fun {ρ} {o} => qi_ck (by omega) (by decide)
  have cM : ∀ {ρ : Type} {o : Option ρ}, qv_ck (nI (8 * lv + k)) 16 o = o := fun {ρ} {o} => qi_ck (by omega) (by decide)
  have c4 : ∀ {ρ : Type} {o : Option ρ}, qv_ck (nI (4 + k)) 32 o = o := fun {ρ} {o} => qi_ck (by omega) (by decide)
  rw [hix, e4]
  have aC : ∀ q, 10 ≤ q → q ≤ 15 → S1.1 q k = nI (E.1 q k) := fun q p1 p2 => h1.2.1.1.2.2.2.2.2.2.1 q p1 p2 k hk
  have aM : ∀ q, 10 ≤ q → q ≤ 15 → T.1 q (8 * lv + k) = nI (E.1 q k) := fun q p1 p2 => hT.1.2.2.2.2.2.2.2.2.1 q p1 p2 k hk
  have fin : ∀ v, ask2 E S1 S2 (some (S1, v)) (some (T, v)) := fun v => ⟨S1, T, v, rfl, rfl, h1, frE_rf, hf⟩
  rcases swI b 8 (by decide) with g | ⟨j, hj, rfl, g⟩
  · have g1 := g (qv_St × Int32)
    have g1 : ∀ (os : List (Option (qv_St × Int32))) d, qv_sw b 0 8 os d = d := g1
    rw [g1, g1]
    exact fin _
  · have g1 : ∀ (os : List (Option (qv_St × Int32))) d, qv_sw (nI j) 0 8 os d = (os[j]?).getD none := g (qv_St × Int32)
    rw [g1, g1]
    rcases (by omega : j = 0 ∨ j = 1 ∨ j = 2 ∨ j = 3 ∨ j = 4 ∨ j = 5 ∨ j = 6 ∨ j = 7 ∨ j = 8) with rfl | rfl | rfl | rfl | rfl | rfl | rfl | rfl | rfl
    all_goals simp only [List.getElem?_cons_zero, List.getElem?_cons_succ, Option.getD_some, cC, cM, c4, qi_cl (show k < 2 ^ 31 by omega), qi_cl (show 8 * lv + k < 2 ^ 31 by omega), qi_cl (show 4 + k < 2 ^ 31 by omega)]
    · rw [aC 10 (by decide) (by decide), aM 10 (by decide) (by decide)]
      by_cases z : nI (E.1 10 k) = 0
      · rw [if_pos z, if_pos z]; exact fin _
      · rw [if_neg z, if_neg z]; exact fin _
    · rw [aC 13 (by decide) (by decide), aM 13 (by decide) (by decide)]; exact fin _
    · rw [aC 14 (by decide) (by decide), aM 14 (by decide) (by decide)]; exact fin _
    · rw [aC 15 (by decide) (by decide), aM 15 (by decide) (by decide)]; exact fin _
    · refine ask2_mk (if (agE E k (E.2.2.2 0)).isSome = true then 1 else 0) ?_ ?_
      · refine ok_cm (ageNowC h1.2.1 hv hk) ?_
        rintro S5 r ⟨hr, hC5, hf5⟩
        have hr : r = _ := hr
        subst hr
        cases ha : agE E k (E.2.2.2 0) with
        | none => exact ok_neg (by decide) (ok_s ⟨rfl, qC_fr h1 hC5 hf5, frE_C hf5⟩)
        | some a =>
          have := agE_lt hv hk ha
          exact ok_pos (nI_pos' (by omega)) (ok_s ⟨rfl, qC_fr h1 hC5 hf5, frE_C hf5⟩)
      · rw [isOnM hT hv hk, Option.bind_some]
        exact ok_s ⟨rfl, hf⟩
    · refine ask2_mk (enc (-2) (agE E k (E.2.2.2 0))) ?_ ?_
      · refine ok_cm (ageNowC h1.2.1 hv hk) ?_
        rintro S5 r ⟨hr, hC5, hf5⟩
        exact ok_s ⟨hr, qC_fr h1 hC5 hf5, frE_C hf5⟩
      · rw [isOnM hT hv hk, Option.bind_some]
        cases ha : agE E k (E.2.2.2 0) with
        | none => exact ok_neg (by decide) (ok_s ⟨rfl, hf⟩)
        | some a =>
          refine ok_pos rfl (ok_ck 0 rfl (by decide) (by decide) ?_)
          rw [tc0, hT.2.1 0 (by decide), ageNowM hT hv hk (by omega), Option.bind_some, ha]
          exact ok_s ⟨rfl, hf⟩
    · rw [h1.2.1.2.1.2.2.2.2.1 k (by omega), hT.2.1 (4 + k) (by omega)]; exact fin _
    · rw [aC 11 (by decide) (by decide), aM 11 (by decide) (by decide)]; exact fin _
    · rw [aC 12 (by decide) (by decide), aM 12 (by decide) (by decide)]; exact fin _
theorem doneC {E : sE} {S : qv_St} {s : Nat} (h : HC E S) (hv : vE E) (hs : s < E.1 9 2) : fX6_isDone S 31 (nI s) = some (if E.2.2.2 (12 + s) = 2 ^ (E.1 17 s) - 1 then 1 else 0) := by
  have h6 := hv.1.2.2.1
  have hL := hv.1.2.2.2.2.2.2.2.2 s hs
  have hb := hv.2.2 (12 + s) (by omega)
  have h9 : 2 ^ (E.1 17 s) ≤ 2 ^ 9 := Nat.pow_le_pow_right (by decide) hL.2.1
  unfold fX6_isDone fX5_allSeconds
  rw [qi_ck (by omega) (by decide), qi_ck (by omega) (by decide), qi_cl (by omega), (h.1.2.2.2.2.2.2.2.2.1 s hs).1, Option.bind_some, sh1m _ (by omega)]
  have e : S.1 (31 + 2) s = nI (E.2.2.2 (12 + s)) := (h.2.1.2.2.2.2.2 s (by omega)).1
  rw [e]
  by_cases g : E.2.2.2 (12 + s) = 2 ^ (E.1 17 s) - 1
  · rw [if_pos (by rw [g]), if_pos g]
  · rw [if_neg (fun z => g ((nI_eq (by omega) (by omega)).mp z)), if_neg g]
theorem call_shot {E : sE} {lv : Nat} {S1 S2 : qv_St} (h1 : qC E S1) (h2 : qM lv E S2) (a b : Int32) : ∃ (S2' : qv_St) (r : Int32), fX11_shot S1 a b = some r ∧ fX12_shot S2 a b = some (S2', r) ∧ frQ S2 S2' := by
  unfold fX11_shot fX12_shot
  rcases shI (x := a) h1 h2 with ⟨e1, e2⟩ | ⟨s, hs, rfl, e1, e2⟩
  · rw [e1, e2, b0, b0, if_pos rfl, if_pos rfl]; exact ⟨S2, -1, rfl, rfl, frQ_rf⟩
  rw [e1, e2, b1, b1, if_neg n10, if_neg n10]
  have hv := h1.1
  have h6 := hv.1.2.2.1
  obtain ⟨T, eT, hT, hf⟩ := copiesQ h2
  rw [eT, Option.bind_some, hT.1.2.1]
  have hix : 6 * nI lv + nI s = nI (6 * lv + s) := by rw [show (6 : Int32) = nI 6 from rfl, pk_mul, nI_add]
  have e12 : 12 + nI s = nI (12 + s) := nI_add 12 s
  have e18 : 18 + nI s = nI (18 + s) := nI_add 18 s
  have e24 : 24 + nI s = nI (24 + s) := nI_add 24 s
  have hlv := hT.1.1
  have cC : ∀ {ρ : Type} {o : Option ρ}, qv_ck (nI s) 6 o = o := fun {ρ} {o} => qi_ck (by omega) (by decide)
  have cM : ∀ {ρ : Type} {o : Option ρ}, qv_ck (nI (6 * lv + s)) 12 o = o := fun {ρ} {o} => qi_ck (by omega) (by decide)
  have c12 : ∀ {ρ : Type} {o : Option ρ}, qv_ck (nI (12 + s)) 32 o = o := fun {ρ} {o} => qi_ck (by omega) (by decide)
  have c18 : ∀ {ρ : Type} {o : Option ρ}, qv_ck (nI (18 + s)) 32 o = o := fun {ρ} {o} => qi_ck (by omega) (by decide)
  have c24 : ∀ {ρ : Type} {o : Option ρ}, qv_ck (nI (24 + s)) 32 o = o := fun {ρ} {o} => qi_ck (by omega) (by decide)
  rw [hix, e12, e18, e24]
  have hr := h1.2.1.2.1.2.2.2.2.2 s (by omega)
  have hr1 : S1.1 33 s = _ := hr.1
  have hr2 : S1.1 34 s = _ := hr.2.1
  have hr3 : S1.1 35 s = _ := hr.2.2
  have hsh := h1.2.1.1.2.2.2.2.2.2.2.2.1 s hs
  have hshM := hT.1.2.2.2.2.2.2.2.2.2.2.1 s hs
  have fin : ∀ v, ∃ (S2' : qv_St) (r : Int32), (some v : Option Int32) = some r ∧ some (T, v) = some (S2', r) ∧ frQ S2 S2' := fun v => ⟨T, v, rfl, rfl, hf⟩
  rcases swI b 5 (by decide) with g | ⟨j, hj, rfl, g⟩
  · have g1 : ∀ (os : List (Option (qv_St × Int32))) d, qv_sw b 0 5 os d = d := g (qv_St × Int32)
    have g2 : ∀ (os : List (Option Int32)) d, qv_sw b 0 5 os d = d := g Int32
    rw [g1, g2]
    exact fin _
  · have g1 : ∀ (os : List (Option (qv_St × Int32))) d, qv_sw (nI j) 0 5 os d = (os[j]?).getD none := g (qv_St × Int32)
    have g2 : ∀ (os : List (Option Int32)) d, qv_sw (nI j) 0 5 os d = (os[j]?).getD none := g Int32
    rw [g1, g2]
    rcases (by omega : j = 0 ∨ j = 1 ∨ j = 2 ∨ j = 3 ∨ j = 4 ∨ j = 5) with rfl | rfl | rfl | rfl | rfl | rfl
    all_goals simp only [List.getElem?_cons_zero, List.getElem?_cons_succ, Option.getD_some, cC, cM, c12, c18, c24, qi_cl (show s < 2 ^ 31 by omega), qi_cl (show 6 * lv + s < 2 ^ 31 by omega), qi_cl (show 12 + s < 2 ^ 31 by omega), qi_cl (show 18 + s < 2 ^ 31 by omega), qi_cl (show 24 + s < 2 ^ 31 by omega)]
    · rw [longM hT.1 hv hs, Option.bind_some, hsh.1]; exact fin _
    · rw [hsh.2, hshM.2]; exact fin _
    · rw [hr1, hT.2.1 (12 + s) (by omega)]; exact fin _
    · rw [hT.2.1 (12 + s) (by omega), wholeM hT.1 hv hs (by have := hv.2.2 (12 + s) (by omega); omega), doneC h1.2.1 hv hs, Option.bind_some, Option.bind_some]
      by_cases z : E.2.2.2 (12 + s) = 2 ^ (E.1 17 s) - 1
      · rw [if_pos z, if_neg n10, if_neg n10]; exact fin _
      · rw [if_neg z, if_pos rfl, if_pos rfl]; exact fin _
    · rw [hr2, hT.2.1 (18 + s) (by omega)]; exact fin _
    · rw [hr3, hT.2.1 (24 + s) (by omega)]; exact fin _
/-! the soonest -/
theorem soonM {lv : Nat} {E : sE} {S : qv_St} {p s a : Nat} (h : HM lv E S) (hv : vE E) (hs : s < E.1 9 2) (ha : a ≤ 301) (hl : ∀ n, n < 310 → S.1 38 n = nI (loE E p n)) : okk (fX12_soonest S (nI s) (nI a)) (fun z => z.2 = (if fs (fun n => goE E p s n) a (301 - a) < 301 then nI (fs (fun n => goE E p s n) a (301 - a)) else -1) ∧ frB S z.1) := by
  unfold fX12_soonest
  have hN5 := qN
  generalize qv_N = N at hN5 ⊢
  have hL := hv.1.2.2.2.2.2.2.2.2 s hs
  refine ok_lp2 (fun m T x => ∃ i, m = 301 - i ∧ a ≤ i ∧ i ≤ 301 ∧ x = nI i ∧ (∀ k, a ≤ k → k < i → goE E p s k = false) ∧ frB S T) ?_ N (301 - a) S (nI a) ⟨a, rfl, by omega, by omega, rfl, fun k h1 h2 => by omega, frB_rf⟩ (by omega)
  rintro self m T x ⟨i, rfl, hi0, hi, rfl, hgo, hf⟩ ih
  by_cases e : i = 301
  · subst e
    refine ok_pos (by decide) (ok_s ⟨?_, hf⟩)
    rw [if_neg]
    intro z
    obtain ⟨g1, g2, g3, g4⟩ := fs_spec (P := fun n => goE E p s n) (301 - a) a
    have := hgo _ g1 z
    have := g4 (by omega)
    simp_all
  · refine ok_neg (show ¬ (300 : Int32) < nI i from nI_nlt (b := i) (a := 300) (by omega) (by decide)) ?_
    refine ok_cm (goodM (HM_fr h hf) hv hs (n := i) (p := p) (by omega) (fun k hk => by rw [hf.2.1 38 (by decide) (by decide) (by decide)]; exact hl (i + k) (by omega))) ?_
    rintro S2 r ⟨hr, hf2⟩
    have hr : r = _ := hr
    have hf2 : frB T S2 := hf2
    subst hr
    rw [nI_1]
    cases hb : goE E p s i with
    | false =>
      refine ok_pos rfl (ih (301 - (i + 1)) _ _ (by omega) ⟨i + 1, rfl, by omega, by omega, rfl, fun k h1 h2 => ?_, frB_tr hf hf2⟩)
      by_cases e2 : k = i
      · subst e2; exact hb
      · exact hgo k h1 (by omega)
    | true =>
      refine ok_neg (by decide) (ok_s ⟨?_, frB_tr hf hf2⟩)
      have e2 : fs (fun n => goE E p s n) a (301 - a) = i := fs_uniq hi0 (by omega) hgo (fun _ => hb)
      show nI i = _
      rw [e2, if_pos (by omega)]
theorem fs_cut {P : Nat → Bool} {a b c : Nat} (hbc : b ≤ c) : (fs P a (b - a) < b ↔ fs P a (c - a) < b) ∧ (fs P a (b - a) < b → fs P a (b - a) = fs P a (c - a)) := by
  have key : fs P a (b - a) < b → fs P a (b - a) = fs P a (c - a) := by
    intro h
    obtain ⟨g1, g2, g3, g4⟩ := fs_spec (P := P) (b - a) a
    exact (fs_uniq g1 (by omega) g3 (fun _ => g4 (by omega))).symm
  refine ⟨⟨fun h => by rw [← key h]; exact h, fun h => ?_⟩, key⟩
  obtain ⟨g1, g2, g3, g4⟩ := fs_spec (P := P) (c - a) a
  have : fs P a (b - a) = fs P a (c - a) := fs_uniq g1 (by omega) g3 (fun _ => g4 (by omega))
  rw [this]; exact h
def bw (u : Nat) : Option (Nat × Nat) → Nat
  | none => u
  | some q => q.2
def bs (u : Nat) (g : Nat → Nat) : Nat → Option (Nat × Nat)
  | 0 => none
  | n + 1 => if g n < bw u (bs u g n) then some (n, g n) else bs u g n
theorem bs_b {u : Nat} {g : Nat → Nat} : ∀ n, bw u (bs u g n) ≤ u ∧ ∀ q, bs u g n = some q → q.1 < n ∧ q.2 < u
  | 0 => ⟨Nat.le_refl _, fun q h => by cases h⟩
  | n + 1 => by
    obtain ⟨h1, h2⟩ := bs_b (u := u) (g := g) n
    rw [bs]
    by_cases h : g n < bw u (bs u g n)
    · rw [if_pos h]
      exact ⟨show g n ≤ u by omega, fun q hq => by cases hq; exact ⟨Nat.lt_succ_self _, show g n < u by omega⟩⟩
    · rw [if_neg h]
      exact ⟨h1, fun q hq => ⟨by have := (h2 q hq).1; omega, (h2 q hq).2⟩⟩
def bx : Option (Nat × Nat) → Int32
  | none => -2
  | some q => nI q.1
theorem plC {E : sE} {S : qv_St} {ρ : Type} {x y : Option ρ} (h : HC E S) (hv : vE E) : (if S.1 9 1 = 0 then x else y) = if E.1 9 1 = 0 then x else y := by
  have h4 := hv.1.2.1
  rw [h.1.2.1]
  by_cases g : E.1 9 1 = 0
  · rw [if_pos (by rw [g]; rfl), if_pos g]
  · rw [if_neg (nI_ne0 (by omega) (by omega)), if_neg g]
theorem plM {lv : Nat} {E : sE} {S : qv_St} {ρ : Type} {x y : Option ρ} (h : mS lv E.1 E.2.1 S.1) (hv : vE E) : qv_ck (S.1 0 18) 2 (if S.1 16 (Int32.toNatClampNeg (S.1 0 18)) = 0 then x else y) = if E.1 9 1 = 0 then x else y := by
  have h4 := hv.1.2.1
  have hl := h.1
  rw [h.2.1, qi_ck (by omega) (by decide), qi_cl (by omega), h.2.2.2.1]
  by_cases g : E.1 9 1 = 0
  · rw [if_pos (by rw [g]; rfl), if_pos g]
  · rw [if_neg (nI_ne0 (by omega) (by omega)), if_neg g]
theorem call_best {E : sE} {lv : Nat} {S1 S2 : qv_St} (h1 : qC E S1) (h2 : qM lv E S2) (a b : Int32) : ask2 E S1 S2 (fX11_best S1 a b) (fX12_best S2 a b) := by
  unfold fX11_best fX12_best
  have hN5 := qN
  generalize qv_N = N at hN5 ⊢
  simp only [qj_e]
  rcases shI (x := a) h1 h2 with ⟨e1, e2⟩ | ⟨s, hs, rfl, e1, e2⟩
  · rw [e1, e2, b0, b0, if_pos rfl, if_pos rfl]; exact ask2_no h1
  rw [e1, e2, b1, b1, if_neg n10, if_neg n10]
  rcases rgI b 0 1 0 1 rfl rfl (by decide) (by decide) with ⟨e1, e2⟩ | ⟨w, _, hw, rfl, e1, e2⟩
  · rw [e1, e2, b0, b0, if_pos rfl, if_pos rfl]; exact ask2_no h1
  rw [e1, e2, b1, b1, if_neg n10, if_neg n10]
  have hv := h1.1
  have h4 := hv.1.2.1
  have hmv := hv.1.2.2.2.1
  have hR1 := hv.2.2 1 (by decide)
  generalize hA : (fun p => if p = E.2.2.2 1 then 0 else E.1 9 15) = A
  have hAl : ∀ p, A p ≤ 99 := fun p => by rw [← hA]; show (if _ then _ else _) ≤ 99; split <;> omega
  generalize hg : (fun p => fs (fun n => goE E p s n) (A p) (301 - A p)) = g
  have hge : ∀ p, fs (fun n => goE E p s n) (A p) (301 - A p) = g p := fun p => by rw [← hg]
  have hgl : ∀ p, g p ≤ 301 := fun p => by
    have := (fs_spec (P := fun n => goE E p s n) (301 - A p) (A p)).2.1
    have := hAl p
    rw [← hge]; omega
  refine ask2_mk (match bs 301 g (E.1 9 1) with | none => -2 | some q => if nI w = 0 then nI q.1 else nI q.2) ?_ ?_
  · refine ok_lp4 (fun m U x3 x4 x5 => ∃ i, m = E.1 9 1 - i ∧ i ≤ E.1 9 1 ∧ x5 = nI i ∧ x3 = bx (bs 301 g i) ∧ x4 = nI (bw 301 (bs 301 g i)) ∧ qC E U ∧ frE S1 U) ?_ N (E.1 9 1) S1 (-2) 301 0 ⟨0, rfl, by omega, rfl, rfl, rfl, h1, frE_rf⟩ (by omega)
    rintro self m U x3 x4 x5 ⟨i, rfl, hi, rfl, rfl, rfl, hU, hfU⟩ ih
    obtain ⟨k1, k2⟩ := bs_b (u := 301) (g := g) i
    rw [hU.2.1.1.2.1]
    by_cases e : i = E.1 9 1
    · refine ok_pos (by rw [e]; exact Int32.le_refl _) ?_
      subst e
      cases hb : bs 301 g (E.1 9 1) with
      | none => exact ok_neg (by decide) (ok_s ⟨rfl, hU, hfU⟩)
      | some q =>
        have := k2 q hb
        refine ok_pos (nI_pos' (n := q.1) (by omega)) (ok_if (fun g => ok_s ⟨?_, hU, hfU⟩) (fun g => ok_s ⟨?_, hU, hfU⟩))
        · show nI q.1 = if nI w = 0 then nI q.1 else nI q.2
          rw [if_pos g]
        · show nI q.2 = if nI w = 0 then nI q.1 else nI q.2
          rw [if_neg g]
    · refine ok_neg (nI_ge (by omega) (by omega)) (ok_bd (faceQ hU (p := i) (by omega)) ?_)
      rintro V ⟨hV, hfV⟩
      rw [hV.2.1.2.1.2.1, hV.2.1.1.2.2.2.1, nI_1]
      have hlt1 : E.1 9 1 - (i + 1) < E.1 9 1 - i := by omega
      have hle1 : i + 1 ≤ E.1 9 1 := by omega
      have key : ∀ x, x = nI (A i) → okk (qv_cm (fX7_firstGood V (nI s) x (nI (bw 301 (bs 301 g i)) - 1)) fun S_4 r_3 => if r_3 < 0 then self S_4 (bx (bs 301 g i)) (nI (bw 301 (bs 301 g i))) (nI (i + 1)) else self S_4 (nI i) r_3 (nI (i + 1))) (fun z => z.2 = (match bs 301 g (E.1 9 1) with | none => -2 | some q => if nI w = 0 then nI q.1 else nI q.2) ∧ qC E z.1 ∧ frE S1 z.1) := by
        rintro x rfl
        have hAi := hAl i
        refine ok_cm (goodC hV hs rfl (by omega) (by omega)) ?_
        rintro S4 r ⟨hr, hS4, hf4⟩
        have hr : r = _ := hr
        have hS4 : SV E i S4 := hS4
        have hf4 : frD V S4 := hf4
        have hfr := frE_tr hfU (frE_tr hfV (frE_D hf4))
        obtain ⟨c1, c2⟩ := fs_cut (P := fun n => goE E i s n) (a := A i) (b := bw 301 (bs 301 g i)) (c := 301) k1
        rw [hge] at c1 c2
        by_cases hlt : fs (fun n => goE E i s n) (A i) (bw 301 (bs 301 g i) - A i) < bw 301 (bs 301 g i)
        · rw [if_pos hlt, c2 hlt] at hr
          subst hr
          have hgi := hgl i
          refine ok_neg (nI_pos (by omega)) (ih _ _ _ _ _ hlt1 ⟨i + 1, rfl, hle1, rfl, ?_, ?_, qC_SV hS4, hfr⟩)
          · rw [bs, if_pos (c1.mp hlt)]; rfl
          · rw [bs, if_pos (c1.mp hlt)]; rfl
        · rw [if_neg hlt] at hr
          subst hr
          refine ok_pos (by decide) (ih _ _ _ _ _ hlt1 ⟨i + 1, rfl, hle1, rfl, ?_, ?_, qC_SV hS4, hfr⟩)
          · rw [bs, if_neg (fun z => hlt (c1.mpr z))]
          · rw [bs, if_neg (fun z => hlt (c1.mpr z))]
      refine ok_if (fun z => key _ ?_) (fun z => key _ ?_)
      · have z := (nI_eq (by omega) (by omega)).mp z
        rw [← hA]
        show 0 = nI (if i = E.2.2.2 1 then 0 else E.1 9 15)
        rw [if_pos z]; rfl
      · have z : ¬ i = E.2.2.2 1 := fun y => z (by rw [y])
        rw [← hA]
        show nI (E.1 9 15) = nI (if i = E.2.2.2 1 then 0 else E.1 9 15)
        rw [if_neg z]
  · refine ok_bd (copiesQ h2) ?_
    rintro T ⟨hT, hf⟩
    refine ok_lp4 (fun m U x3 x4 x5 => ∃ i, m = E.1 9 1 - i ∧ i ≤ E.1 9 1 ∧ x5 = nI i ∧ x3 = bx (bs 301 g i) ∧ x4 = (match bs 301 g i with | none => -2 | some q => nI q.2) ∧ frL T U) ?_ N (E.1 9 1) T (-2) (-2) 0 ⟨0, rfl, by omega, rfl, rfl, rfl, frL_rf⟩ (by omega)
    rintro self m U x3 x4 x5 ⟨i, rfl, hi, rfl, rfl, rfl, hfU⟩ ih
    obtain ⟨k1, k2⟩ := bs_b (u := 301) (g := g) i
    have hU := HM_frL hT hfU
    obtain ⟨a0, a1, a2, a3, ax4⟩ := hU.1
    refine ok_ck lv a1 (by omega) (by decide) ?_
    rw [a1, qi_cl (by omega), a3]
    by_cases e : i = E.1 9 1
    · refine ok_pos (by rw [e]; exact Int32.le_refl _) ?_
      subst e
      cases hb : bs 301 g (E.1 9 1) with
      | none => exact ok_if (fun z => ok_s ⟨rfl, frQ_tr hf (frQ_L hfU)⟩) (fun z => ok_s ⟨rfl, frQ_tr hf (frQ_L hfU)⟩)
      | some q =>
        refine ok_if (fun z => ok_s ⟨?_, frQ_tr hf (frQ_L hfU)⟩) (fun z => ok_s ⟨?_, frQ_tr hf (frQ_L hfU)⟩)
        · show nI q.1 = if nI w = 0 then nI q.1 else nI q.2
          rw [if_pos z]
        · show nI q.2 = if nI w = 0 then nI q.1 else nI q.2
          rw [if_neg z]
    · refine ok_neg (nI_ge (by omega) (by omega)) (ok_bd (fillsM hU hv (p := i) (by omega) (m := 310) (by decide)) ?_)
      rintro V ⟨hV, hfV⟩
      have hHV := HM_frL hU hfV
      refine ok_ck 1 rfl (by decide) (by decide) ?_
      rw [tc1, hHV.2.1 1 (by decide), hHV.1.2.1, nI_1]
      have hlt1 : E.1 9 1 - (i + 1) < E.1 9 1 - i := by omega
      have hle1 : i + 1 ≤ E.1 9 1 := by omega
      have key : ∀ x, x = nI (A i) → okk (qv_cm (fX12_soonest V (nI s) x) fun S_5 r_3 => if r_3 < 0 then self S_5 (bx (bs 301 g i)) (match bs 301 g i with | none => -2 | some q => nI q.2) (nI (i + 1)) else if bx (bs 301 g i) < 0 then self S_5 (nI i) r_3 (nI (i + 1)) else if r_3 < (match bs 301 g i with | none => -2 | some q => nI q.2) then self S_5 (nI i) r_3 (nI (i + 1)) else self S_5 (bx (bs 301 g i)) (match bs 301 g i with | none => -2 | some q => nI q.2) (nI (i + 1))) (fun z => z.2 = (match bs 301 g (E.1 9 1) with | none => -2 | some q => if nI w = 0 then nI q.1 else nI q.2) ∧ frQ S2 z.1) := by
        rintro x rfl
        have hAi := hAl i
        refine ok_cm (soonM hHV hv hs (by omega) hV) ?_
        rintro S4 r ⟨hr, hf4⟩
        have hr : r = _ := hr
        have hf4 : frB V S4 := hf4
        have hfr := frL_tr hfU (frL_tr hfV (frL_B hf4))
        rw [hge] at hr
        have hgi := hgl i
        have skip : ¬ g i < bw 301 (bs 301 g i) → okk (self S4 (bx (bs 301 g i)) (match bs 301 g i with | none => -2 | some q => nI q.2) (nI (i + 1))) (fun z => z.2 = (match bs 301 g (E.1 9 1) with | none => -2 | some q => if nI w = 0 then nI q.1 else nI q.2) ∧ frQ S2 z.1) := by
          intro hn
          refine ih _ _ _ _ _ hlt1 ⟨i + 1, rfl, hle1, rfl, ?_, ?_, hfr⟩
          · rw [bs, if_neg hn]
          · rw [bs, if_neg hn]
        have take : g i < bw 301 (bs 301 g i) → okk (self S4 (nI i) (nI (g i)) (nI (i + 1))) (fun z => z.2 = (match bs 301 g (E.1 9 1) with | none => -2 | some q => if nI w = 0 then nI q.1 else nI q.2) ∧ frQ S2 z.1) := by
          intro hn
          refine ih _ _ _ _ _ hlt1 ⟨i + 1, rfl, hle1, rfl, ?_, ?_, hfr⟩
          · rw [bs, if_pos hn]; rfl
          · rw [bs, if_pos hn]
        by_cases hlt : g i < 301
        · rw [if_pos hlt] at hr
          subst hr
          refine ok_neg (nI_pos (by omega)) ?_
          cases hb : bs 301 g i with
          | none =>
            rw [hb] at take
            exact ok_pos (by decide) (take hlt)
          | some q =>
            have hq := k2 q hb
            rw [hb] at take skip
            refine ok_neg (nI_pos (n := q.1) (by omega)) (ok_if (fun z => take ?_) (fun z => skip ?_))
            · exact (nI_ltI (a := g i) (b := q.2) (by omega) (by omega)).mp z
            · exact fun y => z (nI_lt (a := g i) (b := q.2) y (by omega))
        · rw [if_neg hlt] at hr
          subst hr
          exact ok_pos (by decide) (skip (by omega))
      refine ok_if (fun z => key _ ?_) (fun z => ok_ck lv rfl (by omega) (by decide) (key _ ?_))
      · have z := (nI_eq (by omega) (by omega)).mp z
        rw [← hA]
        show 0 = nI (if i = E.2.2.2 1 then 0 else E.1 9 15)
        rw [if_pos z]; rfl
      · have z : ¬ i = E.2.2.2 1 := fun y => z (by rw [y])
        rw [← hA, qi_cl (by omega), hHV.1.2.2.2.2.2.1]
        show nI (E.1 9 15) = nI (if i = E.2.2.2 1 then 0 else E.1 9 15)
        rw [if_neg z]
