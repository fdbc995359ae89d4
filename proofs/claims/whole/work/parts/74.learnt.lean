/-! the class learns a TELL, a text -/
theorem addP_9 {D : Nat → Nat → Nat} {a k : Nat} (h : k ≠ 1) : addP D a 9 k = D 9 k := by
  unfold addP
  rw [if_neg (fun z => h z.2), if_neg (fun z => by have := z.2; omega)]
theorem addP_1 {D : Nat → Nat → Nat} {a : Nat} : addP D a 9 1 = D 9 1 + 1 := by
  unfold addP
  rw [if_pos ⟨rfl, rfl⟩]
theorem addP_q {D : Nat → Nat → Nat} {a q k : Nat} (h : q ≠ 9) (h2 : q ≠ 16 ∨ k ≠ D 9 1) : addP D a q k = D q k := by
  unfold addP
  rw [if_neg (fun z => h z.1), if_neg (fun z => by rcases h2 with y | y; exact y z.2; exact y z.1)]
theorem addP_n {D : Nat → Nat → Nat} {a : Nat} : addP D a 16 (D 9 1) = a := by
  unfold addP
  rw [if_neg (fun z => by have := z.1; omega), if_pos ⟨rfl, rfl⟩]
theorem addS_9 {D : Nat → Nat → Nat} {a b k : Nat} (h : k ≠ 2) : addS D a b 9 k = D 9 k := by
  unfold addS
  rw [if_neg (fun z => h z.2), if_neg (fun z => by have := z.2; omega), if_neg (fun z => by have := z.2; omega)]
theorem addS_2 {D : Nat → Nat → Nat} {a b : Nat} : addS D a b 9 2 = D 9 2 + 1 := by
  unfold addS
  rw [if_pos ⟨rfl, rfl⟩]
theorem addS_q {D : Nat → Nat → Nat} {a b q k : Nat} (h : q ≠ 9) (h2 : (q ≠ 17 ∧ q ≠ 18) ∨ k ≠ D 9 2) : addS D a b q k = D q k := by
  unfold addS
  rw [if_neg (fun z => h z.1), if_neg (fun z => by rcases h2 with y | y; exact y.1 z.2; exact y z.1), if_neg (fun z => by rcases h2 with y | y; exact y.2 z.2; exact y z.1)]
theorem addS_17 {D : Nat → Nat → Nat} {a b : Nat} : addS D a b 17 (D 9 2) = a := by
  unfold addS
  rw [if_neg (fun z => by have := z.1; omega), if_pos ⟨rfl, rfl⟩]
theorem addS_18 {D : Nat → Nat → Nat} {a b : Nat} : addS D a b 18 (D 9 2) = b := by
  unfold addS
  rw [if_neg (fun z => by have := z.1; omega), if_neg (fun z => by have := z.2; omega), if_pos ⟨rfl, rfl⟩]
theorem set9_q {D : Nat → Nat → Nat} {j a q k : Nat} (h : q ≠ 9 ∨ k ≠ j) : set9 D j a q k = D q k := by
  unfold set9
  rw [if_neg (fun z => by rcases h with y | y; exact y z.1; exact y z.2)]
theorem set9_j {D : Nat → Nat → Nat} {j a : Nat} : set9 D j a 9 j = a := by
  unfold set9
  rw [if_pos ⟨rfl, rfl⟩]
theorem cLaw_GG {G G' : Nat → Nat → Int32} {q : Nat} {brs : List lwB} (h1 : G' q = G q) (h2 : G' (q + 1) = G (q + 1)) (h : cLaw G q brs) : cLaw G' q brs := by
  unfold cLaw at h ⊢
  rw [h1, h2]
  exact h
theorem cS_P {D : Nat → Nat → Nat} {W : Nat → List lwB} {G G' : Nat → Nat → Int32} {a : Nat} (h : cS D W G) (h9 : G' 9 = upd (G 9) 1 (nI (D 9 1 + 1))) (h16 : G' 16 = upd (G 16) (D 9 1) (nI a)) (hr : ∀ r, 10 ≤ r → r ≤ 30 → r ≠ 16 → G' r = G r) : cS (addP D a) W G' := by
  obtain ⟨a0, a1, a2, a3, a4, a5, a6, a7, a8, a9, a10, a11⟩ := h
  refine ⟨?_, ?_, ?_, ?_, ?_, ?_, fun q q1 q2 k hk => ?_, fun p hp => ?_, fun s hs => ?_, cLaw_GG (hr _ (by decide) (by decide) (by decide)) (hr _ (by decide) (by decide) (by decide)) a9, cLaw_GG (hr _ (by decide) (by decide) (by decide)) (hr _ (by decide) (by decide) (by decide)) a10, cLaw_GG (hr _ (by decide) (by decide) (by decide)) (hr _ (by decide) (by decide) (by decide)) a11⟩
  · rw [h9, upd_ne (by decide), addP_9 (by decide)]; exact a0
  · rw [h9, upd_eq, addP_1]
  · rw [h9, upd_ne (by decide), addP_9 (by decide)]; exact a2
  · rw [h9, upd_ne (by decide), addP_9 (by decide)]; exact a3
  · rw [h9, upd_ne (by decide), addP_9 (by decide)]; exact a4
  · rw [h9, upd_ne (by decide), addP_9 (by decide)]; exact a5
  · rw [addP_9 (by decide)] at hk
    rw [hr q q1 (by omega) (by omega), addP_q (by omega) (Or.inl (by omega))]
    exact a6 q q1 q2 k hk
  · rw [addP_1] at hp
    by_cases e : p = D 9 1
    · rw [e, h16, upd_eq, addP_n]
    · rw [h16, upd_ne e, addP_q (by decide) (Or.inr e)]
      exact a7 p (by omega)
  · rw [addP_9 (by decide)] at hs
    rw [addP_q (by decide) (Or.inl (by decide)), addP_q (by decide) (Or.inl (by decide)), hr 17 (by decide) (by decide) (by decide), hr 18 (by decide) (by decide) (by decide)]
    exact a8 s hs
theorem cS_S {D : Nat → Nat → Nat} {W : Nat → List lwB} {G G' : Nat → Nat → Int32} {a b : Nat} (h : cS D W G) (h9 : G' 9 = upd (G 9) 2 (nI (D 9 2 + 1))) (h17 : G' 17 = upd (G 17) (D 9 2) (nI a)) (h18 : G' 18 = upd (G 18) (D 9 2) (nI b)) (hr : ∀ r, 10 ≤ r → r ≤ 30 → r ≠ 17 → r ≠ 18 → G' r = G r) : cS (addS D a b) W G' := by
  obtain ⟨a0, a1, a2, a3, a4, a5, a6, a7, a8, a9, a10, a11⟩ := h
  refine ⟨?_, ?_, ?_, ?_, ?_, ?_, fun q q1 q2 k hk => ?_, fun p hp => ?_, fun s hs => ?_, cLaw_GG (hr _ (by decide) (by decide) (by decide) (by decide)) (hr _ (by decide) (by decide) (by decide) (by decide)) a9, cLaw_GG (hr _ (by decide) (by decide) (by decide) (by decide)) (hr _ (by decide) (by decide) (by decide) (by decide)) a10, cLaw_GG (hr _ (by decide) (by decide) (by decide) (by decide)) (hr _ (by decide) (by decide) (by decide) (by decide)) a11⟩
  · rw [h9, upd_ne (by decide), addS_9 (by decide)]; exact a0
  · rw [h9, upd_ne (by decide), addS_9 (by decide)]; exact a1
  · rw [h9, upd_eq, addS_2]
  · rw [h9, upd_ne (by decide), addS_9 (by decide)]; exact a3
  · rw [h9, upd_ne (by decide), addS_9 (by decide)]; exact a4
  · rw [h9, upd_ne (by decide), addS_9 (by decide)]; exact a5
  · rw [addS_9 (by decide)] at hk
    rw [hr q q1 (by omega) (by omega) (by omega), addS_q (by omega) (Or.inl (by omega))]
    exact a6 q q1 q2 k hk
  · rw [addS_9 (by decide)] at hp
    rw [hr 16 (by decide) (by decide) (by decide) (by decide), addS_q (by decide) (Or.inl (by decide))]
    exact a7 p hp
  · rw [addS_2] at hs
    by_cases e : s = D 9 2
    · rw [e, h17, h18, upd_eq, upd_eq, addS_17, addS_18]; exact ⟨rfl, rfl⟩
    · rw [h17, h18, upd_ne e, upd_ne e, addS_q (by decide) (Or.inr e), addS_q (by decide) (Or.inr e)]
      exact a8 s (by omega)
theorem cS_9 {D : Nat → Nat → Nat} {W : Nat → List lwB} {G G' : Nat → Nat → Int32} {j a : Nat} (hj : 15 ≤ j) (hj2 : j ≤ 17) (h : cS D W G) (h9 : G' 9 = upd (G 9) j (nI a)) (hr : ∀ r, 10 ≤ r → r ≤ 30 → G' r = G r) : cS (set9 D j a) W G' := by
  obtain ⟨a0, a1, a2, a3, a4, a5, a6, a7, a8, a9, a10, a11⟩ := h
  have s9 : ∀ k, (k = j → G' 9 k = nI (set9 D j a 9 k)) ∧ (k ≠ j → G 9 k = nI (D 9 k) → G' 9 k = nI (set9 D j a 9 k)) := fun k => ⟨fun e => by rw [e, h9, upd_eq, set9_j], fun e g => by rw [h9, upd_ne e, set9_q (Or.inr e)]; exact g⟩
  have st : ∀ k, G 9 k = nI (D 9 k) → G' 9 k = nI (set9 D j a 9 k) := fun k g => by
    by_cases e : k = j
    · exact (s9 k).1 e
    · exact (s9 k).2 e g
  refine ⟨st 0 a0, st 1 a1, st 2 a2, st 15 a3, st 16 a4, st 17 a5, fun q q1 q2 k hk => ?_, fun p hp => ?_, fun s hs => ?_, cLaw_GG (hr _ (by decide) (by decide)) (hr _ (by decide) (by decide)) a9, cLaw_GG (hr _ (by decide) (by decide)) (hr _ (by decide) (by decide)) a10, cLaw_GG (hr _ (by decide) (by decide)) (hr _ (by decide) (by decide)) a11⟩
  · rw [set9_q (Or.inr (by omega))] at hk
    rw [hr q q1 (by omega), set9_q (Or.inl (by omega))]
    exact a6 q q1 q2 k hk
  · rw [set9_q (Or.inr (by omega))] at hp
    rw [hr 16 (by decide) (by decide), set9_q (Or.inl (by decide))]
    exact a7 p hp
  · rw [set9_q (Or.inr (by omega))] at hs
    rw [hr 17 (by decide) (by decide), hr 18 (by decide) (by decide), set9_q (Or.inl (by decide)), set9_q (Or.inl (by decide))]
    exact a8 s hs
theorem cS_L {D : Nat → Nat → Nat} {W : Nat → List lwB} {S Z : qv_St} {k : Nat} {brs : List lwB} (hk : k < 3) (h : cS D W S.1) (hl : cLaw Z.1 (19 + 4 * k) brs) (hf : fcL (19 + 4 * k) S Z) : cS D (fun j => if j = k then brs else W j) Z.1 := by
  obtain ⟨a0, a1, a2, a3, a4, a5, a6, a7, a8, a9, a10, a11⟩ := h
  have lo : ∀ r, r < 19 → Z.1 r = S.1 r := fun r hr => hf.1 r (by omega) (by omega) (by omega)
  refine ⟨by rw [lo 9 (by decide)]; exact a0, by rw [lo 9 (by decide)]; exact a1, by rw [lo 9 (by decide)]; exact a2, by rw [lo 9 (by decide)]; exact a3, by rw [lo 9 (by decide)]; exact a4, by rw [lo 9 (by decide)]; exact a5, fun q q1 q2 j hj => by rw [lo q (by omega)]; exact a6 q q1 q2 j hj, fun p hp => by rw [lo 16 (by decide)]; exact a7 p hp, fun s hs => by rw [lo 17 (by decide), lo 18 (by decide)]; exact a8 s hs, ?_, ?_, ?_⟩
  · by_cases e : k = 0
    · subst e; exact hl
    · show cLaw Z.1 19 (if 0 = k then brs else W 0)
      rw [if_neg (by omega)]
      exact cLaw_GG (hf.1 _ (by omega) (by omega) (by omega)) (hf.1 _ (by omega) (by omega) (by omega)) a9
  · by_cases e : k = 1
    · subst e; exact hl
    · show cLaw Z.1 23 (if 1 = k then brs else W 1)
      rw [if_neg (by omega)]
      exact cLaw_GG (hf.1 _ (by omega) (by omega) (by omega)) (hf.1 _ (by omega) (by omega) (by omega)) a10
  · by_cases e : k = 2
    · subst e; exact hl
    · show cLaw Z.1 27 (if 2 = k then brs else W 2)
      rw [if_neg (by omega)]
      exact cLaw_GG (hf.1 _ (by omega) (by omega) (by omega)) (hf.1 _ (by omega) (by omega) (by omega)) a11
theorem learnTC {B : Nat → Nat} {L h t' : Nat} {d : dtT} {S : qv_St} (hL : L ≤ 2000) (hp : ∀ i, i < nT B L → ps B L i < L) (ht : tkC' B L S) (hs : cS d.1 d.2 S.1) (h3 : h + 3 ≤ t') (h4 : t' ≤ 401) (hsh : shT (tk B L) (tvn B L) (cnD d.1) h t') : okk (fX5_learnTell S (nI h)) (fun Z => cS (tel (tk B L) (tvn B L) h d).1 (tel (tk B L) (tvn B L) h d).2 Z.1 ∧ fcS S Z) := by
  have hk := kOK_lt (tk_ok (B := B) (L := L) (i := h))
  unfold fX5_learnTell
  rw [kindAtC ht (by omega), Option.bind_some]
  have hc0 := hs.1
  have hc1 := hs.2.1
  have hc2 := hs.2.2.1
  have e2 : nI h + 2 = nI (h + 2) := nI_add h 2
  have e3 : nI h + 3 = nI (h + 3) := nI_add h 3
  rcases hsh with ⟨g, g1, ⟨_, g2, _⟩, g3⟩ | ⟨g, g1, ⟨_, g2, _⟩, g3⟩ | ⟨g, g1, ⟨_, g2, _⟩, g3⟩ | ⟨g, g1, ⟨_, g2, _⟩, g3⟩ | ⟨g, g1, g2, g3⟩ | ⟨g, g1, g2, g3, g4⟩
  · have g1 : d.1 9 0 < 8 := g1
    rw [sw9 _ (by omega), g]
    simp only [List.getElem?_cons_zero, List.getElem?_cons_succ, Option.getD_some]
    rw [e2, intC ht (by omega) hL hp (g2 0 (by decide)), Option.bind_some, e3]
    refine ok_bd (noiseL (a := 1) hL hp ht hc0 g1 (by decide) (by omega) (fun j hj => by have := g2 (j + 1) (by omega); rw [show h + 2 + (j + 1) = h + 3 + j by omega] at this; exact this)) ?_
    rintro Z ⟨z1, z2, z3, z4, z5, z6, z7, z8, z9⟩
    refine ok_s ⟨?_, fun r hr => z8 r (by omega), z9⟩
    unfold tel
    rw [if_pos g]
    exact cS_N hs z1 z2 z3 z4 z5 z6 z7 (fun r r1 _ => z8 r (Or.inr r1))
  · have g1 : d.1 9 0 < 8 := g1
    rw [sw9 _ (by omega), g]
    simp only [List.getElem?_cons_zero, List.getElem?_cons_succ, Option.getD_some]
    rw [e2]
    refine ok_bd (noiseL (a := 0) (b := 0) hL hp ht hc0 g1 (by decide) (by omega) (fun j hj => g2 j (by omega))) ?_
    rintro Z ⟨z1, z2, z3, z4, z5, z6, z7, z8, z9⟩
    refine ok_s ⟨?_, fun r hr => z8 r (by omega), z9⟩
    unfold tel
    rw [if_neg (by omega), if_pos g]
    exact cS_N hs z1 z2 z3 z4 z5 z6 z7 (fun r r1 _ => z8 r (Or.inr r1))
  · have g1 : d.1 9 1 < 4 := g1
    rw [sw9 _ (by omega), g]
    simp only [List.getElem?_cons_zero, List.getElem?_cons_succ, Option.getD_some]
    rw [e2, intC ht (by omega) hL hp (g2 0 (by decide)), Option.bind_some]
    unfold fX5_learnPlace
    rw [hc1, if_neg (show ¬ (4 : Int32) ≤ nI (d.1 9 1) from nI_ge (b := 4) g1 (by decide)), qi_ck g1 (by decide), qi_cl (by omega)]
    simp only [qb_e]
    rw [show (qv_si S 16 (d.1 9 1) (nI (tvn B L (h + 2)))).1 9 = S.1 9 by rw [qs_si, qs_ne (by decide)], hc1, nI_1, Option.bind_some]
    refine ok_s ⟨?_, fcS_trans (fcS_si (by decide) (by decide)) (fcS_si (by decide) (by decide))⟩
    unfold tel
    rw [if_neg (by omega), if_neg (by omega), if_pos g]
    refine cS_P hs ?_ ?_ (fun r r1 r2 r3 => ?_)
    · rw [qs_si, qs_eq, qs_si, qs_ne (by decide)]
    · rw [qs_si, qs_ne (by decide), qs_si, qs_eq]
    · rw [qs_si, qs_ne (by omega), qs_si, qs_ne r3]
  · have g1 : d.1 9 2 < 6 := g1
    rw [sw9 _ (by omega), g]
    simp only [List.getElem?_cons_zero, List.getElem?_cons_succ, Option.getD_some]
    rw [e2, e3, intC ht (by omega) hL hp (g2 0 (by decide)), Option.bind_some, intC ht (by omega) hL hp (g2 1 (by decide)), Option.bind_some]
    unfold fX5_learnShot
    rw [hc2, if_neg (show ¬ (6 : Int32) ≤ nI (d.1 9 2) from nI_ge (b := 6) g1 (by decide)), qi_ck g1 (by decide), qi_cl (by omega)]
    simp only [qb_e]
    rw [show (qv_si S 17 (d.1 9 2) (nI (tvn B L (h + 2)))).1 9 = S.1 9 by rw [qs_si, qs_ne (by decide)], hc2, qi_ck g1 (by decide), qi_cl (by omega)]
    rw [show (qv_si (qv_si S 17 (d.1 9 2) (nI (tvn B L (h + 2)))) 18 (d.1 9 2) (nI (tvn B L (h + 3)))).1 9 = S.1 9 by rw [qs_si, qs_ne (by decide), qs_si, qs_ne (by decide)], hc2, nI_1, Option.bind_some]
    refine ok_s ⟨?_, fcS_trans (fcS_si (by decide) (by decide)) (fcS_trans (fcS_si (by decide) (by decide)) (fcS_si (by decide) (by decide)))⟩
    unfold tel
    rw [if_neg (by omega), if_neg (by omega), if_neg (by omega), if_pos g]
    refine cS_S hs ?_ ?_ ?_ (fun r r1 r2 r3 r4 => ?_)
    · rw [qs_si, qs_eq, qs_si, qs_ne (by decide), qs_si, qs_ne (by decide)]
    · rw [qs_si, qs_ne (by decide), qs_si, qs_ne (by decide), qs_si, qs_eq]
    · rw [qs_si, qs_ne (by decide), qs_si, qs_eq, qs_si, qs_ne (by decide)]
    · rw [qs_si, qs_ne (by omega), qs_si, qs_ne r4, qs_si, qs_ne r3]
  · have law : ∀ k, k < 3 → tk B L h = 4 + k → okk ((fX2_learn S (19 + 4 * k) (nI h + 2)).bind fun S_5 => some S_5) (fun Z => cS (tel (tk B L) (tvn B L) h d).1 (tel (tk B L) (tvn B L) h d).2 Z.1 ∧ fcS S Z) := by
      intro k hk3 hkk
      rw [e2]
      refine ok_bd (learnL hL hp ht (by omega) (by omega) g3) ?_
      rintro Z ⟨z1, z2⟩
      refine ok_s ⟨?_, fcS_L (by omega) (by omega) z2⟩
      unfold tel
      rw [if_neg (by omega), if_neg (by omega), if_neg (by omega), if_neg (by omega), if_pos g1, show tk B L h - 4 = k by omega]
      exact cS_L hk3 hs z1 z2
    rw [sw9 _ (by omega)]
    rcases (by omega : tk B L h = 4 ∨ tk B L h = 5 ∨ tk B L h = 6) with e | e | e
    · rw [e]; simp only [List.getElem?_cons_zero, List.getElem?_cons_succ, Option.getD_some]; exact law 0 (by decide) e
    · rw [e]; simp only [List.getElem?_cons_zero, List.getElem?_cons_succ, Option.getD_some]; exact law 1 (by decide) e
    · rw [e]; simp only [List.getElem?_cons_zero, List.getElem?_cons_succ, Option.getD_some]; exact law 2 (by decide) e
  · have one : ∀ j, tk B L h + 8 = j → okk ((fX9_intAt S (nI h + 1)).bind fun r_6 => qv_b (qv_si S 9 j r_6) fun S_8 => some S_8) (fun Z => cS (tel (tk B L) (tvn B L) h d).1 (tel (tk B L) (tvn B L) h d).2 Z.1 ∧ fcS S Z) := by
      intro j hj
      rw [nI_1, intC ht (by omega) hL hp g2, Option.bind_some]
      simp only [qb_e]
      refine ok_s ⟨?_, fcS_si (by decide) (by decide)⟩
      unfold tel
      rw [if_neg (by omega), if_neg (by omega), if_neg (by omega), if_neg (by omega), if_neg (by omega), if_pos g1, hj]
      exact cS_9 (by omega) (by omega) hs (by rw [qs_si, qs_eq]) (fun r r1 _ => by rw [qs_si, qs_ne (by omega)])
    rw [sw9 _ (by omega)]
    rcases (by omega : tk B L h = 7 ∨ tk B L h = 8 ∨ tk B L h = 9) with e | e | e
    · rw [e]; simp only [List.getElem?_cons_zero, List.getElem?_cons_succ, Option.getD_some]; exact one 15 (by omega)
    · rw [e]; simp only [List.getElem?_cons_zero, List.getElem?_cons_succ, Option.getD_some]; exact one 16 (by omega)
    · rw [e]; simp only [List.getElem?_cons_zero, List.getElem?_cons_succ, Option.getD_some]; exact one 17 (by omega)
theorem learnC {B : Nat → Nat} {L : Nat} {S : qv_St} {c : Nat × Nat × Nat} (hL : L ≤ 2000) (hp : ∀ i, i < nT B L → ps B L i < L) (ht : tkC' B L S) (hg : gdT (tk B L) (tvn B L) (nT B L) c) : okk (fX5_learn S) (fun Z => cS (dat (tk B L) (tvn B L) (nT B L)).1 (dat (tk B L) (tvn B L) (nT B L)).2 Z.1 ∧ fcS S Z) := by
  unfold fX5_learn
  have hN5 := qN
  generalize qv_N = N at hN5 ⊢
  have h4 := hg.2.1
  refine ok_bd clearT ?_
  rintro X ⟨x1, x2⟩
  refine ok_lp3 (fun n T a b => ∃ i, n = 401 - i ∧ i ≤ nT B L ∧ b = nI i ∧ a = nI (hdT (tk B L) i) ∧ cS (dat (tk B L) (tvn B L) i).1 (dat (tk B L) (tvn B L) i).2 T.1 ∧ fcS S T) ?_ N 401 X 0 0 ⟨0, rfl, Nat.zero_le _, rfl, rfl, (show cS (dat (tk B L) (tvn B L) 0).1 (dat (tk B L) (tvn B L) 0).2 X.1 from x1), x2⟩ (by omega)
  rintro self n T a b ⟨i, rfl, hi, rfl, rfl, tc, tf⟩ ih
  have htT := fcS_tk ht tf
  rw [htT.2.1]
  refine ok_if (fun g => ?_) (fun g => ?_)
  · have g := (nI_leI (by omega) (by omega)).mp g
    have e : i = nT B L := by omega
    rw [e] at tc
    exact ok_s ⟨tc, tf⟩
  · have g : ¬ nT B L ≤ i := fun z => g ((nI_leI (by omega) (by omega)).mpr z)
    have hk := kOK_lt (tk_ok (B := B) (L := L) (i := i))
    have hle := hdT_le (K := tk B L) i
    rw [kindAtC htT (by omega), Option.bind_some]
    simp only [qj_e, qb_e]
    rw [nI_1]
    refine ok_if (fun g5 => ?_) (fun g5 => ?_)
    · have g5 : tk B L i = 59 := (nI_eq (b := 59) (by omega) (by decide)).mp g5
      obtain ⟨s1, s2⟩ := hg.2.2.2.2.2.2.2.2 i (by omega) g5
      refine ok_bd (learnTC hL hp htT tc s1 (by omega) s2) ?_
      rintro Z ⟨z1, z2⟩
      refine ih (401 - (i + 1)) _ _ _ (by omega) ⟨i + 1, rfl, by omega, rfl, by rw [hdT, if_pos g5], ?_, fcS_trans tf z2⟩
      rw [dat, if_pos g5]
      exact z1
    · have g5 : tk B L i ≠ 59 := fun z => g5 (by rw [z]; rfl)
      refine ih (401 - (i + 1)) _ _ _ (by omega) ⟨i + 1, rfl, by omega, rfl, by rw [hdT, if_neg g5], ?_, tf⟩
      rw [dat, if_neg g5]
      exact tc
