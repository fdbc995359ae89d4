/-! the class learns a text -/
def fcS (S Z : qv_St) : Prop := (∀ r, (r < 9 ∨ 30 < r) → Z.1 r = S.1 r) ∧ Z.2 = S.2
theorem fcS_rfl {S : qv_St} : fcS S S := ⟨fun _ _ => rfl, rfl⟩
theorem fcS_trans {S T U : qv_St} (h : fcS S T) (g : fcS T U) : fcS S U := ⟨fun r a => (g.1 r a).trans (h.1 r a), g.2.trans h.2⟩
theorem fcS_tk {B : Nat → Nat} {L : Nat} {S Z : qv_St} (h : tkC' B L S) (g : fcS S Z) : tkC' B L Z := tkC_fr h (g.1 3 (by decide)) (g.1 4 (by decide)) (g.1 5 (by decide)) (by rw [g.2])
theorem fcS_si {S : qv_St} {q j : Nat} {x : Int32} (h1 : 9 ≤ q) (h2 : q ≤ 30) : fcS S (qv_si S q j x) := ⟨fun r hr => by rw [qs_si, qs_ne (by omega)], rfl⟩
theorem fcS_L {S Z : qv_St} {q : Nat} (h1 : 9 ≤ q) (h2 : q ≤ 27) (h : fcL q S Z) : fcS S Z := ⟨fun r hr => h.1 r (by omega) (by omega) (by omega), h.2⟩
theorem onlyOp {q : Nat} {S : qv_St} {x : Int32} : okk (fX2_becomeOnly S q x) (fun Z => lcd q [x, -59] Z ∧ fcL q S Z) := by
  unfold fX2_becomeOnly
  refine ok_b (fun X => lcd q [] X ∧ fcL q S X) ⟨⟨by rw [qs_si, qs_eq, upd_eq]; rfl, trivial⟩, fun r r1 _ _ => by rw [qs_si, qs_ne r1], rfl⟩ ?_
  rintro X ⟨x1, x2⟩
  refine ok_bd (emitL x1 (by decide)) ?_
  rintro Y ⟨y1, _, _, y4⟩
  refine ok_bd (emitL y1 (show 1 < 400 by decide)) ?_
  rintro Z ⟨z1, _, _, z4⟩
  exact ok_s ⟨z1, fcL_trans x2 (fcL_trans y4 z4)⟩
theorem cLaw_of {q : Nat} {pre : List Int32} {S T : qv_St} {brs : List lwB} (h : lcd q pre S) (hl : pre.length ≤ 400) (e : pre = flat brs) (h1 : T.1 q = S.1 q) (h2 : T.1 (q + 1) = S.1 (q + 1)) : cLaw T.1 q brs := by
  have := lcd_len h hl brs e
  unfold cLaw at this ⊢
  rw [h1, h2]
  exact this
theorem clearT {S : qv_St} : okk (fX5_clear S) (fun Z => cS D00 lwD Z.1 ∧ fcS S Z) := by
  unfold fX5_clear
  refine ok_b (fun X => X = qv_si S 9 0 0) rfl ?_
  rintro A hA
  refine ok_b (fun X => X = qv_si A 9 1 0) rfl ?_
  rintro B hB
  refine ok_b (fun X => X.1 9 0 = 0 ∧ X.1 9 1 = 0 ∧ X.1 9 2 = 0 ∧ fcS S X) ⟨?_, ?_, ?_, ?_⟩ ?_
  · rw [qs_si, qs_eq, upd_ne (by decide), hB, qs_si, qs_eq, upd_ne (by decide), hA, qs_si, qs_eq, upd_eq]
  · rw [qs_si, qs_eq, upd_ne (by decide), hB, qs_si, qs_eq, upd_eq]
  · rw [qs_si, qs_eq, upd_eq]
  · rw [hB, hA]; exact fcS_trans (fcS_si (by decide) (by decide)) (fcS_trans (fcS_si (by decide) (by decide)) (fcS_si (by decide) (by decide)))
  rintro C ⟨c0, c1, c2, cf⟩
  refine ok_bd (onlyOp (q := 19)) ?_
  rintro E ⟨e1, e2⟩
  refine ok_bd (onlyOp (q := 23)) ?_
  rintro F ⟨f1, f2⟩
  refine ok_bd (onlyOp (q := 27)) ?_
  rintro G ⟨g1, g2⟩
  simp only [qb_e]
  have h9 : G.1 9 = C.1 9 := by rw [g2.1 9 (by decide) (by decide) (by decide), f2.1 9 (by decide) (by decide) (by decide), e2.1 9 (by decide) (by decide) (by decide)]
  have hq : ∀ r, r ≠ 9 → (qv_si (qv_si (qv_si G 9 15 5) 9 16 50) 9 17 0).1 r = G.1 r := fun r hr => by rw [qs_si, qs_ne hr, qs_si, qs_ne hr, qs_si, qs_ne hr]
  have h9' : ∀ k, k ≠ 15 → k ≠ 16 → k ≠ 17 → (qv_si (qv_si (qv_si G 9 15 5) 9 16 50) 9 17 0).1 9 k = C.1 9 k := fun k k1 k2 k3 => by rw [qs_si, qs_eq, upd_ne k3, qs_si, qs_eq, upd_ne k2, qs_si, qs_eq, upd_ne k1, h9]
  refine ok_s ⟨⟨?_, ?_, ?_, ?_, ?_, ?_, fun q _ _ k hk => absurd hk (by show ¬ k < 0; omega), fun p hp => absurd hp (by show ¬ p < 0; omega), fun s hs => absurd hs (by show ¬ s < 0; omega), ?_, ?_, ?_⟩, ?_⟩
  · rw [h9' 0 (by decide) (by decide) (by decide)]; exact c0
  · rw [h9' 1 (by decide) (by decide) (by decide)]; exact c1
  · rw [h9' 2 (by decide) (by decide) (by decide)]; exact c2
  · rw [qs_si, qs_eq, upd_ne (by decide), qs_si, qs_eq, upd_ne (by decide), qs_si, qs_eq, upd_eq]; rfl
  · rw [qs_si, qs_eq, upd_ne (by decide), qs_si, qs_eq, upd_eq]; rfl
  · rw [qs_si, qs_eq, upd_eq]; rfl
  · exact cLaw_of e1 (by decide) rfl (by rw [hq 19 (by decide), g2.1 19 (by decide) (by decide) (by decide), f2.1 19 (by decide) (by decide) (by decide)]) (by rw [hq 20 (by decide), g2.1 20 (by decide) (by decide) (by decide), f2.1 20 (by decide) (by decide) (by decide)])
  · exact cLaw_of f1 (by decide) rfl (by rw [hq 23 (by decide), g2.1 23 (by decide) (by decide) (by decide)]) (by rw [hq 24 (by decide), g2.1 24 (by decide) (by decide) (by decide)])
  · exact cLaw_of g1 (by decide) rfl (hq 27 (by decide)) (hq 28 (by decide))
  · refine fcS_trans cf (fcS_trans (fcS_L (by decide) (by decide) e2) (fcS_trans (fcS_L (by decide) (by decide) f2) (fcS_trans (fcS_L (by decide) (by decide) g2) ?_)))
    exact fcS_trans (fcS_si (by decide) (by decide)) (fcS_trans (fcS_si (by decide) (by decide)) (fcS_si (by decide) (by decide)))
theorem noiseL {B : Nat → Nat} {L n a b h : Nat} {S : qv_St} (hL : L ≤ 2000) (hp : ∀ i, i < nT B L → ps B L i < L) (ht : tkC' B L S) (h9 : S.1 9 0 = nI n) (hn : n < 8) (ha : a ≤ 1) (hh : h ≤ 400) (hk : ∀ j, j < 4 → tk B L (h + j) = 23) :
    okk (fX5_learnNoise S (nI a) (nI b) (nI h)) (fun Z => Z.1 9 = upd (S.1 9) 0 (nI (n + 1)) ∧ Z.1 10 = upd (S.1 10) n (nI a) ∧ Z.1 11 = upd (S.1 11) n (nI b) ∧ Z.1 12 = upd (S.1 12) n (nI (tvn B L h)) ∧ Z.1 13 = upd (S.1 13) n (nI (tvn B L (h + 1))) ∧ Z.1 14 = upd (S.1 14) n (nI (tvn B L (h + 2))) ∧ Z.1 15 = upd (S.1 15) n (nI (tvn B L (h + 3))) ∧ (∀ r, (r < 9 ∨ 15 < r) → Z.1 r = S.1 r) ∧ Z.2 = S.2) := by
  have hv : vp_nar .boolean (nI a) = nI a := by
    rcases (by omega : a = 0 ∨ a = 1) with rfl | rfl <;> decide
  have tkf : ∀ Z : qv_St, (∀ r, r < 9 → Z.1 r = S.1 r) → Z.2 = S.2 → tkC' B L Z := fun Z z1 z2 => tkC_fr ht (z1 3 (by decide)) (z1 4 (by decide)) (z1 5 (by decide)) (by rw [z2])
  unfold fX5_learnNoise
  rw [h9, hv]
  refine ok_neg (show ¬ (8 : Int32) ≤ nI n from nI_ge (b := 8) hn (by decide)) (ok_ck n rfl hn (by decide) ?_)
  rw [qi_cl (by omega)]
  refine ok_b (fun X => X = qv_si S 10 n (nI a)) rfl ?_
  rintro A hA
  have a9 : A.1 9 0 = nI n := by rw [hA, qs_si, qs_ne (by decide)]; exact h9
  rw [a9]
  refine ok_ck n rfl hn (by decide) ?_
  rw [qi_cl (by omega)]
  refine ok_b (fun X => X = qv_si A 11 n (nI b)) rfl ?_
  rintro C hC
  have c9 : C.1 9 0 = nI n := by rw [hC, qs_si, qs_ne (by decide)]; exact a9
  have cq : ∀ r, r ≠ 10 → r ≠ 11 → C.1 r = S.1 r := fun r r1 r2 => by rw [hC, qs_si, qs_ne r2, hA, qs_si, qs_ne r1]
  have c2 : C.2 = S.2 := by rw [hC, hA]; rfl
  have hk0 : tk B L h = 23 := hk 0 (by decide)
  rw [intC (tkf C (fun r hr => cq r (by omega) (by omega)) c2) (by omega) hL hp hk0, Option.bind_some, c9]
  refine ok_ck n rfl hn (by decide) ?_
  rw [qi_cl (by omega)]
  refine ok_b (fun X => X = qv_si C 12 n (nI (tvn B L h))) rfl ?_
  rintro E hE
  have e9 : E.1 9 0 = nI n := by rw [hE, qs_si, qs_ne (by decide)]; exact c9
  have eq : ∀ r, r ≠ 10 → r ≠ 11 → r ≠ 12 → E.1 r = S.1 r := fun r r1 r2 r3 => by rw [hE, qs_si, qs_ne r3]; exact cq r r1 r2
  have e2 : E.2 = S.2 := by rw [hE]; exact c2
  rw [nI_1, intC (tkf E (fun r hr => eq r (by omega) (by omega) (by omega)) e2) (by omega) hL hp (hk 1 (by decide)), Option.bind_some, e9]
  refine ok_ck n rfl hn (by decide) ?_
  rw [qi_cl (by omega)]
  refine ok_b (fun X => X = qv_si E 13 n (nI (tvn B L (h + 1)))) rfl ?_
  rintro F hF
  have f9 : F.1 9 0 = nI n := by rw [hF, qs_si, qs_ne (by decide)]; exact e9
  have fq : ∀ r, r ≠ 10 → r ≠ 11 → r ≠ 12 → r ≠ 13 → F.1 r = S.1 r := fun r r1 r2 r3 r4 => by rw [hF, qs_si, qs_ne r4]; exact eq r r1 r2 r3
  have f2 : F.2 = S.2 := by rw [hF]; exact e2
  rw [show nI h + 2 = nI (h + 2) from nI_add h 2, intC (tkf F (fun r hr => fq r (by omega) (by omega) (by omega) (by omega)) f2) (by omega) hL hp (hk 2 (by decide)), Option.bind_some, f9]
  refine ok_ck n rfl hn (by decide) ?_
  rw [qi_cl (by omega)]
  refine ok_b (fun X => X = qv_si F 14 n (nI (tvn B L (h + 2)))) rfl ?_
  rintro G hG
  have g9 : G.1 9 0 = nI n := by rw [hG, qs_si, qs_ne (by decide)]; exact f9
  have gq : ∀ r, r ≠ 10 → r ≠ 11 → r ≠ 12 → r ≠ 13 → r ≠ 14 → G.1 r = S.1 r := fun r r1 r2 r3 r4 r5 => by rw [hG, qs_si, qs_ne r5]; exact fq r r1 r2 r3 r4
  have g2 : G.2 = S.2 := by rw [hG]; exact f2
  rw [show nI h + 3 = nI (h + 3) from nI_add h 3, intC (tkf G (fun r hr => gq r (by omega) (by omega) (by omega) (by omega) (by omega)) g2) (by omega) hL hp (hk 3 (by decide)), Option.bind_some, g9]
  refine ok_ck n rfl hn (by decide) ?_
  rw [qi_cl (by omega)]
  refine ok_b (fun X => X = qv_si G 15 n (nI (tvn B L (h + 3)))) rfl ?_
  rintro H hH
  have k9 : H.1 9 = S.1 9 := by rw [hH, qs_si, qs_ne (by decide)]; exact gq 9 (by decide) (by decide) (by decide) (by decide) (by decide)
  simp only [qb_e]
  rw [k9, h9, nI_1]
  refine ok_s ⟨?_, ?_, ?_, ?_, ?_, ?_, ?_, fun r hr => ?_, ?_⟩
  · rw [qs_si, qs_eq, k9]
  · rw [qs_si, qs_ne (by decide), hH, qs_si, qs_ne (by decide), hG, qs_si, qs_ne (by decide), hF, qs_si, qs_ne (by decide), hE, qs_si, qs_ne (by decide), hC, qs_si, qs_ne (by decide), hA, qs_si, qs_eq]
  · rw [qs_si, qs_ne (by decide), hH, qs_si, qs_ne (by decide), hG, qs_si, qs_ne (by decide), hF, qs_si, qs_ne (by decide), hE, qs_si, qs_ne (by decide), hC, qs_si, qs_eq, hA, qs_si, qs_ne (by decide)]
  · rw [qs_si, qs_ne (by decide), hH, qs_si, qs_ne (by decide), hG, qs_si, qs_ne (by decide), hF, qs_si, qs_ne (by decide), hE, qs_si, qs_eq, cq 12 (by decide) (by decide)]
  · rw [qs_si, qs_ne (by decide), hH, qs_si, qs_ne (by decide), hG, qs_si, qs_ne (by decide), hF, qs_si, qs_eq, eq 13 (by decide) (by decide) (by decide)]
  · rw [qs_si, qs_ne (by decide), hH, qs_si, qs_ne (by decide), hG, qs_si, qs_eq, fq 14 (by decide) (by decide) (by decide) (by decide)]
  · rw [qs_si, qs_ne (by decide), hH, qs_si, qs_eq, gq 15 (by decide) (by decide) (by decide) (by decide) (by decide)]
  · rw [qs_si, qs_ne (by omega), hH, qs_si, qs_ne (by omega)]; exact gq r (by omega) (by omega) (by omega) (by omega) (by omega)
  · show H.2 = S.2; rw [hH]; exact g2
/-! what is added -/
theorem addN_9 {D : Nat → Nat → Nat} {a b c d e f k : Nat} (h : k ≠ 0) : addN D a b c d e f 9 k = D 9 k := by
  unfold addN
  rw [if_neg (fun z => h z.2), if_neg (fun z => by have := z.2.1; omega)]
theorem addN_0 {D : Nat → Nat → Nat} {a b c d e f : Nat} : addN D a b c d e f 9 0 = D 9 0 + 1 := by
  unfold addN
  rw [if_pos ⟨rfl, rfl⟩]
theorem addN_hi {D : Nat → Nat → Nat} {a b c d e f q k : Nat} (h : 16 ≤ q) : addN D a b c d e f q k = D q k := by
  unfold addN
  rw [if_neg (fun z => by have := z.1; omega), if_neg (fun z => by have := z.2.2; omega)]
theorem addN_lo {D : Nat → Nat → Nat} {a b c d e f q k : Nat} (h : 10 ≤ q) (hk : k ≠ D 9 0) : addN D a b c d e f q k = D q k := by
  unfold addN
  rw [if_neg (fun z => by have := z.1; omega), if_neg (fun z => hk z.1)]
theorem addN_n {D : Nat → Nat → Nat} {a b c d e f q : Nat} (h : 10 ≤ q) (h2 : q ≤ 15) : addN D a b c d e f q (D 9 0) = if q = 10 then a else if q = 11 then b else if q = 12 then c else if q = 13 then d else if q = 14 then e else f := by
  unfold addN
  rw [if_neg (fun z => by have := z.1; omega), if_pos ⟨rfl, h, h2⟩]
theorem cS_N {D : Nat → Nat → Nat} {W : Nat → List lwB} {G G' : Nat → Nat → Int32} {a b c d e f : Nat} (h : cS D W G) (h9 : G' 9 = upd (G 9) 0 (nI (D 9 0 + 1))) (h10 : G' 10 = upd (G 10) (D 9 0) (nI a)) (h11 : G' 11 = upd (G 11) (D 9 0) (nI b)) (h12 : G' 12 = upd (G 12) (D 9 0) (nI c)) (h13 : G' 13 = upd (G 13) (D 9 0) (nI d)) (h14 : G' 14 = upd (G 14) (D 9 0) (nI e)) (h15 : G' 15 = upd (G 15) (D 9 0) (nI f)) (hr : ∀ r, 15 < r → r ≤ 30 → G' r = G r) : cS (addN D a b c d e f) W G' := by
  obtain ⟨a0, a1, a2, a3, a4, a5, a6, a7, a8, a9, a10, a11⟩ := h
  have law : ∀ q brs, 16 ≤ q → q ≤ 27 → cLaw G q brs → cLaw G' q brs := fun q brs q1 q2 hl => by
    unfold cLaw at hl ⊢
    rw [hr q (by omega) (by omega), hr (q + 1) (by omega) (by omega)]
    exact hl
  refine ⟨?_, ?_, ?_, ?_, ?_, ?_, fun q q1 q2 k hk => ?_, fun p hp => ?_, fun s hs => ?_, law _ _ (by decide) (by decide) a9, law _ _ (by decide) (by decide) a10, law _ _ (by decide) (by decide) a11⟩
  · rw [h9, upd_eq, addN_0]
  · rw [h9, upd_ne (by decide), addN_9 (by decide)]; exact a1
  · rw [h9, upd_ne (by decide), addN_9 (by decide)]; exact a2
  · rw [h9, upd_ne (by decide), addN_9 (by decide)]; exact a3
  · rw [h9, upd_ne (by decide), addN_9 (by decide)]; exact a4
  · rw [h9, upd_ne (by decide), addN_9 (by decide)]; exact a5
  · rw [addN_0] at hk
    by_cases ek : k = D 9 0
    · subst ek
      rw [addN_n q1 q2]
      rcases (by omega : q = 10 ∨ q = 11 ∨ q = 12 ∨ q = 13 ∨ q = 14 ∨ q = 15) with rfl | rfl | rfl | rfl | rfl | rfl
      · rw [h10, upd_eq]; rfl
      · rw [h11, upd_eq]; rfl
      · rw [h12, upd_eq]; rfl
      · rw [h13, upd_eq]; rfl
      · rw [h14, upd_eq]; rfl
      · rw [h15, upd_eq]; rfl
    · rw [addN_lo q1 ek]
      have := a6 q q1 q2 k (by omega)
      rcases (by omega : q = 10 ∨ q = 11 ∨ q = 12 ∨ q = 13 ∨ q = 14 ∨ q = 15) with rfl | rfl | rfl | rfl | rfl | rfl
      · rw [h10, upd_ne ek]; exact this
      · rw [h11, upd_ne ek]; exact this
      · rw [h12, upd_ne ek]; exact this
      · rw [h13, upd_ne ek]; exact this
      · rw [h14, upd_ne ek]; exact this
      · rw [h15, upd_ne ek]; exact this
  · rw [addN_9 (by decide)] at hp
    rw [addN_hi (by decide), hr 16 (by decide) (by decide)]
    exact a7 p hp
  · rw [addN_9 (by decide)] at hs
    rw [addN_hi (by decide), addN_hi (by decide), hr 17 (by decide) (by decide), hr 18 (by decide) (by decide)]
    exact a8 s hs
