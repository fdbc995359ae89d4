/-! the reference's TELLS, all -/
theorem sw20 {ρ : Type} (j : Nat) (hj : j ≤ 9) (os : List (Option ρ)) (d : Option ρ) : qv_sw (nI (20 + j)) 20 29 os d = (os[j]?).getD none := by
  unfold qv_sw
  rw [nI_toInt (by omega), if_neg (by omega)]
  congr 2
  omega
theorem sw20d {ρ : Type} (j : Nat) (hj : j < 20 ∨ 29 < j) (h : j < 2 ^ 31) (os : List (Option ρ)) (d : Option ρ) : qv_sw (nI j) 20 29 os d = d := by
  unfold qv_sw
  rw [nI_toInt h, if_pos (by omega)]
theorem roomT {B : Nat → Nat} {L sd t m a b : Nat} {c : Nat × Nat × Nat} {S : qv_St} {kk : qv_St → Option qv_St} {cc : qv_St → Prop} [∀ T, Decidable (cc T)] (h : rS B L sd t c S) (hk : tk B L t ≤ 3) (he : tellS (tk B L) (tvn B L) c (t, 0, 0) = nmd (tk B L) m (roomS a b (t, 0, 0))) (ha : a ≤ b) (hb : b ≤ 8) (hc1 : ∀ T : qv_St, T.1 0 13 = 0 → cc T) (hc2 : ∀ (T : qv_St) (n : Nat), 0 < n → n ≤ 5 → T.1 0 13 = nI n → ¬ cc T) (hgood : ∀ T, a < b → lM B L (sPass (t, 0, 0)) T → (sPass (t, 0, 0)).2.1 = 0 → fmP S T → okk (kk T) (fun Z => tlQ B L sd t c S Z)) :
    okk ((fX12_roomFor S (nI a) (nI b)).bind fun S_5 => if cc S_5 then kk S_5 else some S_5) (fun Z => tlQ B L sd t c S Z) := by
  obtain ⟨r1, r2, r3, r4, _⟩ := id h
  refine ok_bd (roomM r1 r2.2.1 r3 r4 ha hb) ?_
  rintro T ⟨t1, t2, t3⟩
  have bad : ∀ p : pst, lM B L p T → p.2.1 ≠ 0 → p.2.1 ≤ 5 → (tellS (tk B L) (tvn B L) c (t, 0, 0)).2 = p.2 → okk (if cc T then kk T else some T) (fun Z => tlQ B L sd t c S Z) := by
    intro p p1 p2 p3 p4
    refine ok_neg (hc2 T p.2.1 (by omega) p3 p1.1) (ok_s ⟨lM_cg p1 p2 p4, fmS_B (fmB_P t3), fun z => ?_⟩)
    rw [p4] at z
    exact absurd z p2
  by_cases g : a < b
  · have er : roomS a b (t, 0, 0) = (t, 0, 0) := if_pos g
    rw [er] at he
    by_cases g0 : (sPass (t, 0, 0)).2.1 = 0
    · have hl := t1 g
      have h13 : T.1 0 13 = 0 := by rw [hl.1, g0]; rfl
      exact ok_pos (hc1 T h13) (hgood T g hl g0 t3)
    · refine bad (sPass (t, 0, 0)) (t1 g) g0 (sPass_wf (p := (t, 0, 0)) ⟨r2.2.1, Nat.zero_le _⟩).2 ?_
      rw [he]
      unfold nmd
      rw [sOnly_f g0, its_f g0, sOnly_f g0]
  · have er : roomS a b (t, 0, 0) = sRef 2 (t, 0, 0) := if_neg g
    rw [er] at he
    refine bad (sRef 2 (t, 0, 0)) (t2 g) (sRef_ok (by decide)) (sRef_wf (p := (t, 0, 0)) ⟨r2.2.1, Nat.zero_le _⟩ (by decide)).2 ?_
    rw [he]
    exact nmd_f (sRef_ok (by decide))
theorem tellOneM {B : Nat → Nat} {L sd t : Nat} {c : Nat × Nat × Nat} {S : qv_St} (hL : L ≤ 2000) (hp : ∀ i, i < nT B L → ps B L i < L) (hsd : sd ≤ 1) (h : rS B L sd t c S) (h24 : tk B L t ≠ 24) : okk (fX12_tellOne S) (fun Z => tlQ B L sd t c S Z) := by
  obtain ⟨r1, r2, r3, r4, r5, r6, r7, r8, r9, r10, r11⟩ := id h
  have h4 := r2.2.1
  have hcn : c = cnD (dat (tk B L) (tvn B L) t).1 := r2.2.2.1
  have hk62 := kOK_lt (tk_ok (B := B) (L := L) (i := t))
  have hq0 : qW B L (t, 0, 0) := ⟨⟨h4, Nat.zero_le _⟩, fun _ => r3⟩
  have h9 : S.1 9 sd = nI c.1 := by rw [r8.1, hcn]; rfl
  have h16 : S.1 16 sd = nI c.2.1 := by rw [r8.2.1, hcn]; rfl
  have h18 : S.1 18 sd = nI c.2.2 := by rw [r8.2.2.1, hcn]; rfl
  have e20 : ∀ x : Int32, ∃ b, fX12_is S 20 = some b ∧ (tk B L t = 0 → b = 1) ∧ (tk B L t ≠ 0 → b = 0) := fun _ => isVal (k := 0) r1 hq0 r4 rfl
  have eq0 : ∀ (T : qv_St) (n : Nat), 0 < n → n ≤ 5 → T.1 0 13 = nI n → ¬ T.1 0 13 = 0 := fun T n n1 n5 e => by rw [e]; exact nI_ne0 n1 (by omega)
  have le0 : ∀ (T : qv_St) (n : Nat), 0 < n → n ≤ 5 → T.1 0 13 = nI n → ¬ T.1 0 13 ≤ 0 := fun T n n1 n5 e => by rw [e]; exact nI_nle n1 (by omega)
  have refu : ¬ tk B L t ≤ 9 → okk ((fX12_fail S 1).bind fun S_4 => if (S_4.1 0 13) ≤ 0 then (fX12_goesOn S_4).bind fun S_2 => (fX12_tellLaw S_2 (nI (km (tk B L t)) - 24)).bind fun S_3 => some S_3 else some S_4) (fun Z => tlQ B L sd t c S Z) := by
    intro g
    refine ok_bd (failL 1 r1 hq0 r4) ?_
    rintro Z ⟨z1, z2⟩
    have he : tellS (tk B L) (tvn B L) c (t, 0, 0) = sRef 1 (t, 0, 0) := by
      unfold tellS
      rw [if_neg (show ¬ tk B L t = 0 by omega), if_neg (show ¬ tk B L t = 1 by omega), if_neg (show ¬ tk B L t = 2 by omega), if_neg (show ¬ tk B L t = 3 by omega), if_neg (show ¬ tk B L t ≤ 6 by omega), if_neg (show ¬ tk B L t ≤ 9 by omega)]
    refine ok_neg (le0 Z 1 (by decide) (by decide) z1.1) (ok_s ⟨by rw [he]; exact z1, fmS_B (fmB_P z2), fun z => ?_⟩)
    rw [he] at z
    exact absurd z (sRef_ok (by decide))
  unfold fX12_tellOne
  rw [r1.2.1 rfl]
  refine ok_ck t rfl (by omega) (by decide) ?_
  rw [qi_cl (show t < 2 ^ 31 by omega), (kindM r4 r3 h4).1, r5, qi_cl (show sd < 2 ^ 31 by omega), h9, h16, h18]
  by_cases g9 : tk B L t ≤ 9
  · rw [km_w (show tk B L t < 22 by omega), sw20 _ g9]
    rcases (by omega : tk B L t = 0 ∨ tk B L t = 1 ∨ tk B L t = 2 ∨ tk B L t = 3 ∨ tk B L t = 4 ∨ tk B L t = 5 ∨ tk B L t = 6 ∨ tk B L t = 7 ∨ tk B L t = 8 ∨ tk B L t = 9) with e | e | e | e | e | e | e | e | e | e
    all_goals rw [e]; simp only [List.getElem?_cons_zero, List.getElem?_cons_succ, Option.getD_some, qj_e, qb_e]
    · obtain ⟨b, b1, b2, b3⟩ := e20 0
      rw [b1, Option.bind_some]
      refine ok_ck sd rfl (by omega) (by decide) ?_
      refine roomT (m := 5) (b := 8) (cc := fun T => T.1 0 13 = 0) h (by omega) ?_ r2.2.2.2.1 (by decide) (fun T z => z) eq0 (fun T g tl t0 tf => ?_)
      · unfold tellS; rw [if_pos e]
      · refine ok_bd (noise1M hL hp hsd h e g tl t0 tf (b2 e)) (fun Z hz => ok_s hz)
    · obtain ⟨b, b1, b2, b3⟩ := e20 0
      rw [b1, Option.bind_some]
      refine ok_ck sd rfl (by omega) (by decide) ?_
      refine roomT (m := 4) (b := 8) (cc := fun T => T.1 0 13 = 0) h (by omega) ?_ r2.2.2.2.1 (by decide) (fun T z => z) eq0 (fun T g tl t0 tf => ?_)
      · unfold tellS; rw [if_neg (show ¬ tk B L t = 0 by omega), if_pos e]
      · refine ok_bd (noise0M hL hp hsd h e g tl t0 tf (b3 (by omega))) (fun Z hz => ok_s hz)
    · refine ok_ck sd rfl (by omega) (by decide) ?_
      refine roomT (m := 1) (b := 4) (cc := fun T => T.1 0 13 ≤ 0) h (by omega) ?_ r2.2.2.2.2.1 (by decide) (fun T z => by rw [z]; decide) le0 (fun T g tl t0 tf => ?_)
      · unfold tellS; rw [if_neg (show ¬ tk B L t = 0 by omega), if_neg (show ¬ tk B L t = 1 by omega), if_pos e]
      · have := placeM hL hp hsd h e g tl t0 tf
        simp only [qb_e] at this
        exact this
    · refine ok_ck sd rfl (by omega) (by decide) ?_
      refine roomT (m := 2) (b := 6) (cc := fun T => T.1 0 13 = 0) h (by omega) ?_ r2.2.2.2.2.2.1 (by decide) (fun T z => z) eq0 (fun T g tl t0 tf => ?_)
      · unfold tellS; rw [if_neg (show ¬ tk B L t = 0 by omega), if_neg (show ¬ tk B L t = 1 by omega), if_neg (show ¬ tk B L t = 2 by omega), if_pos e]
      · refine ok_bd (shotM hL hp hsd h e g tl t0 tf) (fun Z hz => ok_s hz)
    · refine ok_ck t rfl (by omega) (by decide) ?_
      exact ok_neg (by decide) (ok_ck t rfl (by omega) (by decide) (ok_pos (by decide) (ok_pos (by rw [show S.1 0 13 = 0 from r1.1]; decide) (lawM (k := 0) hL hp hsd h e (by decide)))))
    · refine ok_ck t rfl (by omega) (by decide) ?_
      exact ok_neg (by decide) (ok_ck t rfl (by omega) (by decide) (ok_pos (by decide) (ok_pos (by rw [show S.1 0 13 = 0 from r1.1]; decide) (lawM (k := 1) hL hp hsd h e (by decide)))))
    · refine ok_ck t rfl (by omega) (by decide) ?_
      exact ok_neg (by decide) (ok_ck t rfl (by omega) (by decide) (ok_pos (by decide) (ok_pos (by rw [show S.1 0 13 = 0 from r1.1]; decide) (lawM (k := 2) hL hp hsd h e (by decide)))))
    · have := oneM (q := 21) (lim := 99) hL hp hsd h (Or.inl ⟨e, rfl, rfl⟩)
      simp only [qb_e] at this
      exact this
    · have := oneM (q := 22) (lim := 9999) hL hp hsd h (Or.inr (Or.inl ⟨e, rfl, rfl⟩))
      simp only [qb_e] at this
      exact this
    · have := oneM (q := 23) (lim := 9999) hL hp hsd h (Or.inr (Or.inr ⟨e, rfl, rfl⟩))
      simp only [qb_e] at this
      exact this
  · have hkm : km (tk B L t) < 20 ∨ 29 < km (tk B L t) := by
      by_cases g : tk B L t < 22
      · rw [km_w g]; omega
      · left
        unfold km
        rw [if_neg g]
        repeat (first | (split; · decide) | decide)
    have hlt := km_lt _ hk62
    rw [sw20d _ hkm (by omega)]
    simp only [qj_e, qb_e]
    refine ok_ck t rfl (by omega) (by decide) ?_
    have hr := refu g9
    refine ok_if (fun _ => hr) (fun gz => ok_ck t rfl (by omega) (by decide) (ok_if (fun g => ?_) (fun _ => hr)))
    have g : km (tk B L t) ≤ 26 := (nI_leI (b := 26) (by omega) (by decide)).mp g
    exfalso
    have : km (tk B L t) < 20 := by omega
    apply gz
    rw [Int32.lt_iff_toInt_lt, show (24 : Int32) = nI 24 from rfl, pk_sub_toInt (by omega) (by omega)]
    show ((km (tk B L t) : Int) - 24) < 0
    omega
