/-! the reference's laws: pieces -/
theorem sPass_ok {p : pst} (h : (sPass p).2.1 = 0) : p.2.1 = 0 ∧ p.1 < 400 ∧ sPass p = (p.1 + 1, p.2) := by
  unfold sPass at h ⊢
  by_cases g : p.1 < 400
  · rw [if_pos g] at h ⊢; exact ⟨h, g, rfl⟩
  · exfalso
    rw [if_neg g] at h
    unfold sRef at h
    by_cases g2 : p.2.1 = 0
    · rw [if_pos g2] at h; exact absurd h (by decide : (2 : Nat) ≠ 0)
    · rw [if_neg g2] at h; exact g2 h
theorem sRef_ok {c : Nat} {p : pst} (hc : c ≠ 0) : (sRef c p).2.1 ≠ 0 := by
  unfold sRef
  by_cases g2 : p.2.1 = 0
  · rw [if_pos g2]; exact hc
  · rw [if_neg g2]; exact g2
theorem sOnly_ok {K : Nat → Nat} {k : Nat} {p : pst} (h : (sOnly K k p).2.1 = 0) : p.2.1 = 0 ∧ K p.1 = k ∧ p.1 < 400 ∧ sOnly K k p = (p.1 + 1, p.2) := by
  unfold sOnly at h ⊢
  by_cases g : p.2.1 = 0
  · rw [if_pos g] at h ⊢
    by_cases g2 : K p.1 = k
    · rw [if_pos g2] at h ⊢
      obtain ⟨h1, h2, h3⟩ := sPass_ok h
      exact ⟨g, g2, h2, h3⟩
    · rw [if_neg g2] at h
      exact absurd h (sRef_ok (by decide))
  · rw [if_neg g] at h; exact absurd h g
theorem sX_ok {K V : Nat → Nat} {p : pst} (hV : ∀ i, V i < 2 ^ 31) (hw : p.1 ≤ 400) (h : (sX K V p).1.2.1 = 0) : p.2.1 = 0 ∧ (sX K V p).1.2.2 = 0 ∧ p.1 < (sX K V p).1.1 ∧ (sX K V p).1.1 ≤ 400 ∧ swf (sX K V p).2 0 ∧ (sX K V p).2.length + p.1 ≤ (sX K V p).1.1 ∧ (∀ i, p.1 ≤ i → i < (sX K V p).1.1 → K i ≠ 59 ∧ K i ≠ 22 ∧ K i ≠ 24 ∧ 13 ≤ K i) := by
  by_cases g : p.2.1 = 0
  · have e : sX K V p = eR K V true [] [] p.1 := if_pos g
    rw [e] at h ⊢
    generalize hR : eR K V true [] [] p.1 = R at h ⊢
    obtain ⟨⟨a, b, c⟩, d⟩ := R
    have h : b = 0 := h
    subst h
    obtain ⟨r1, r2, r3, r4, r5, r6, r7⟩ := eR_ok hV (400 - p.1) true [] [] p.1 (by omega) trivial (Nat.zero_le _) (fun rest hr => hr) a d c hR
    exact ⟨g, r1, r4 rfl, r3, r5, by rw [show nP [] = 0 from rfl, show ([] : lwC).length = 0 from rfl] at r6; show d.length + p.1 ≤ a; omega, r7⟩
  · rw [sX_f g] at h; exact absurd h g
theorem lM_z {B : Nat → Nat} {L : Nat} {p : pst} {S : qv_St} (h : lM B L p S) (h0 : p.2.1 = 0) : lM B L (p.1, 0, 0) S := ⟨by rw [h.1, h0], fun _ => h.2.1 h0, fun z => absurd rfl z⟩
theorem exprX {B : Nat → Nat} {L sd c0 : Nat} {p : pst} {S : qv_St} (h : lM B L p S) (hw : qW B L p) (ht : tkM' B L S) (hsd : sd ≤ 1) (hs : p.2.1 = 0 → S.1 0 12 = 0 ∧ S.1 0 45 = nI c0 ∧ c0 ≤ 420 * sd + p.1) :
    okk (fX12_expression S) (fun Z => lM B L (sX (tk B L) (tvn B L) p).1 Z ∧ fmE sd c0 S Z ∧ ((sX (tk B L) (tvn B L) p).1.2.1 = 0 → Z.1 0 12 = 0 ∧ cds c0 (sX (tk B L) (tvn B L) p).2 Z)) := by
  by_cases g : p.2.1 = 0
  · have e : sX (tk B L) (tvn B L) p = eR (tk B L) (tvn B L) true [] [] p.1 := if_pos g
    rw [e]
    exact exprM (lM_z h g) hw.1.1 (hw.2 g) ht hsd (hs g).1 (hs g).2.1 (hs g).2.2
  · rw [sX_f g]
    have h5 := hw.1.2
    unfold fX12_expression
    have hN5 := qN
    generalize qv_N = N at hN5 ⊢
    refine ok_b (fun X => X = qv_si S 0 49 0) rfl ?_
    rintro X hX
    have x0 : ∀ k, k ≠ 49 → X.1 0 k = S.1 0 k := fun k hk => by rw [hX, qs_si, qs_eq, upd_ne hk]
    have hfX : fmE sd c0 S X := by rw [hX]; exact fmE_si (Or.inr rfl)
    clear hX
    simp only [qj_e, qb_e]
    refine ok_lp2 (fun n T x => T = X) ?_ N 0 X 1 rfl (by omega)
    rintro self n T x rfl ih
    have hl : lM B L p T := lM_fr h (x0 11 (by decide)) (x0 13 (by decide)) (x0 14 (by decide))
    have hfin : okk (some T) (fun Z => lM B L p Z ∧ fmE sd c0 S Z ∧ (p.2.1 = 0 → Z.1 0 12 = 0 ∧ cds c0 [] Z)) := ok_s ⟨hl, hfX, fun z => absurd z g⟩
    refine ok_if (fun _ => hfin) (fun _ => ok_neg ?_ hfin)
    rw [hl.1]
    exact nI_ne0 (by omega) (by omega)
theorem sX_q {B : Nat → Nat} {L : Nat} {p : pst} (hV : ∀ i, tvn B L i < 2 ^ 31) (hw : qW B L p) : qW B L (sX (tk B L) (tvn B L) p).1 := by
  refine ⟨sX_wf hw.1, fun z => ?_⟩
  obtain ⟨h0, _, h3, h4, _, _, h7⟩ := sX_ok hV hw.1.1 z
  have := (h7 ((sX (tk B L) (tvn B L) p).1.1 - 1) (by omega) (by omega)).2.2.1
  have := (tk_in this).1
  omega
theorem codeAt_ag {A C A' C' : Nat → Int32} : ∀ (out : lwC) (a : Nat), (∀ j, a ≤ j → j < a + out.length → A' j = A j ∧ C' j = C j) → codeAt A C a out → codeAt A' C' a out
  | [], _, _, _ => trivial
  | o :: t, a, h, hc => by
    have h0 := h a (Nat.le_refl _) (by simp only [List.length_cons]; omega)
    exact ⟨by rw [h0.1]; exact hc.1, by rw [h0.2]; exact hc.2.1, codeAt_ag t (a + 1) (fun j j1 j2 => h j (by omega) (by simp only [List.length_cons]; omega)) hc.2.2⟩
theorem brsAt_ag {G G' : Nat → Nat → Int32} {PB PC : Nat → Prop} (hB : ∀ q, 26 ≤ q → q ≤ 30 → ∀ b, PB b → G' q b = G q b) (hC : ∀ j, PC j → G' 31 j = G 31 j ∧ G' 32 j = G 32 j) : ∀ (brs : List lwB) (f : Nat), (∀ b, f ≤ b → b < f + brs.length → PB b) → (∀ b, f ≤ b → b < f + brs.length → ∀ x y, rgB b x y → G 30 b = nI y → ∀ j, x ≤ j → j < y → PC j) → brsAt G f brs → brsAt G' f brs
  | [], _, _, _, _ => trivial
  | br :: t, f, h1, h2, hb => by
    have hl : (br :: t).length = t.length + 1 := rfl
    have p0 := h1 f (Nat.le_refl _) (by omega)
    refine ⟨?_, brsAt_ag hB hC t (f + 1) (fun b b1 b2 => h1 b (by omega) (by omega)) (fun b b1 b2 => h2 b (by omega) (by omega)) hb.2⟩
    have q0 := h2 f (Nat.le_refl _) (by omega)
    match br, hb.1 with
    | (none, c3), hb =>
      obtain ⟨g1, x, g2, g3, g4, g5⟩ := hb
      refine ⟨by rw [hB 26 (by decide) (by decide) f p0]; exact g1, x, by rw [hB 29 (by decide) (by decide) f p0]; exact g2, by rw [hB 30 (by decide) (by decide) f p0]; exact g3, g4, codeAt_ag c3 x (fun j j1 j2 => hC j (q0 _ _ g4 g3 j j1 j2)) g5⟩
    | (some (c1, c2), c3), hb =>
      obtain ⟨g1, x, g2, g3, g4, g5, g6, g7, g8, g9⟩ := hb
      refine ⟨by rw [hB 26 (by decide) (by decide) f p0]; exact g1, x, by rw [hB 27 (by decide) (by decide) f p0]; exact g2, by rw [hB 28 (by decide) (by decide) f p0]; exact g3, by rw [hB 29 (by decide) (by decide) f p0]; exact g4, by rw [hB 30 (by decide) (by decide) f p0]; exact g5, g6, ?_, ?_, ?_⟩
      · exact codeAt_ag c1 x (fun j j1 j2 => hC j (q0 _ _ g6 g5 j (by omega) (by omega))) g7
      · exact codeAt_ag c2 _ (fun j j1 j2 => hC j (q0 _ _ g6 g5 j (by omega) (by omega))) g8
      · exact codeAt_ag c3 _ (fun j j1 j2 => hC j (q0 _ _ g6 g5 j (by omega) (by omega))) g9
theorem brsAt_app {G : Nat → Nat → Int32} {br : lwB} : ∀ (acc : List lwB) (f : Nat), brsAt G f acc → brAt G (f + acc.length) br → brsAt G f (acc ++ [br])
  | [], f, _, h => ⟨h, trivial⟩
  | a :: t, f, h, h2 => ⟨h.1, brsAt_app t (f + 1) h.2 (by rw [show f + 1 + t.length = f + (a :: t).length by simp only [List.length_cons]; omega]; exact h2)⟩
/-- where a term's codes end -/
def brU (G : Nat → Nat → Int32) (f n c : Nat) : Prop := ∀ b, f ≤ b → b < f + n → ∃ y, y ≤ c ∧ G 30 b = nI y
theorem grow_brs {G G' : Nat → Nat → Int32} {f b c : Nat} {acc : List lwB} (hb : f + acc.length = b) (hc : c ≤ 840) (h1 : ∀ q, 26 ≤ q → q ≤ 30 → ∀ j, j < b → G' q j = G q j) (h2 : ∀ j, j < c → G' 31 j = G 31 j ∧ G' 32 j = G 32 j) (h : brsAt G f acc) (hu : brU G f acc.length c) : brsAt G' f acc ∧ brU G' f acc.length c := by
  refine ⟨brsAt_ag (PB := fun j => j < b) (PC := fun j => j < c) h1 h2 acc f (fun j _ j2 => by omega) (fun j j1 j2 x y hr hy k k1 k2 => ?_) h, fun j j1 j2 => ?_⟩
  · obtain ⟨y', q1, q3⟩ := hu j j1 j2
    have hr1 := hr.1
    have : y = y' := (nI_eq (by omega) (by omega)).mp (hy.symm.trans q3)
    show k < c
    omega
  · rw [h1 30 (by decide) (by decide) j (by omega)]; exact hu j j1 j2
/-! frames of a law -/
def fmT (sd c b : Nat) (S Z : qv_St) : Prop := (∀ q, q ≠ 0 → (q < 26 ∨ 33 < q) → Z.1 q = S.1 q) ∧ (∀ q, 26 ≤ q → q ≤ 30 → ∀ j, (j < b ∨ 130 * sd + 130 ≤ j) → Z.1 q j = S.1 q j) ∧ (∀ k, k ≠ 11 → k ≠ 12 → k ≠ 13 → k ≠ 14 → k ≠ 39 → k ≠ 45 → k ≠ 49 → Z.1 0 k = S.1 0 k) ∧ Z.2 = S.2 ∧ (∀ j, (j < c ∨ 420 * sd + 420 ≤ j) → Z.1 31 j = S.1 31 j ∧ Z.1 32 j = S.1 32 j)
theorem fmT_rfl {sd c b : Nat} {S : qv_St} : fmT sd c b S S := ⟨fun _ _ _ => rfl, fun _ _ _ _ _ => rfl, fun _ _ _ _ _ _ _ _ => rfl, rfl, fun _ _ => ⟨rfl, rfl⟩⟩
theorem fmT_trans {sd c b c' b' : Nat} {S T U : qv_St} (h : fmT sd c b S T) (g : fmT sd c' b' T U) (hc : c ≤ c') (hb : b ≤ b') : fmT sd c b S U := ⟨fun q a d => (g.1 q a d).trans (h.1 q a d), fun q a d j hj => (g.2.1 q a d j (by omega)).trans (h.2.1 q a d j hj), fun k a1 a2 a3 a4 a5 a6 a7 => (g.2.2.1 k a1 a2 a3 a4 a5 a6 a7).trans (h.2.2.1 k a1 a2 a3 a4 a5 a6 a7), g.2.2.2.1.trans h.2.2.2.1, fun j hj => ⟨(g.2.2.2.2 j (by omega)).1.trans (h.2.2.2.2 j hj).1, (g.2.2.2.2 j (by omega)).2.trans (h.2.2.2.2 j hj).2⟩⟩
theorem fmT_E {sd c b : Nat} {S T : qv_St} (h : fmE sd c S T) : fmT sd c b S T := ⟨fun q a d => h.1 q a (by omega) (by omega) (by omega), fun q a d j _ => by rw [h.1 q (by omega) (by omega) (by omega) (by omega)], fun k a1 a2 a3 a4 _ a6 a7 => h.2.1 k a1 a2 a3 a4 a6 a7, h.2.2.1, h.2.2.2⟩
theorem fmT_P {sd c b : Nat} {S T : qv_St} (h : fmP S T) : fmT sd c b S T := fmT_E (fmE_P h)
theorem fmT_si {sd c b q j : Nat} {S : qv_St} {x : Int32} (h1 : 26 ≤ q) (h2 : q ≤ 30) (h3 : b ≤ j) (h4 : j < 130 * sd + 130) : fmT sd c b S (qv_si S q j x) := ⟨fun r a d => by rw [qs_si, qs_ne (by omega)], fun r a d k hk => by
    rw [qs_si]
    by_cases e : r = q
    · rw [e, qs_eq, upd_ne (by omega)]
    · rw [qs_ne e], fun k _ _ _ _ _ _ _ => by rw [qs_si, qs_ne (by omega)], rfl, fun k _ => by rw [qs_si, qs_ne (by omega), qs_ne (by omega)]; exact ⟨rfl, rfl⟩⟩
theorem fmT_39 {sd c b : Nat} {S : qv_St} {x : Int32} : fmT sd c b S (qv_si S 0 39 x) := ⟨fun r a d => by rw [qs_si, qs_ne a], fun r a d k hk => by rw [qs_si, qs_ne (by omega)], fun k _ _ _ _ a5 _ _ => by rw [qs_si, qs_eq, upd_ne a5], rfl, fun k _ => by rw [qs_si, qs_ne (by decide), qs_ne (by decide)]; exact ⟨rfl, rfl⟩⟩
theorem fmT_tk {B : Nat → Nat} {L sd c b : Nat} {S Z : qv_St} (h : tkM' B L S) (g : fmT sd c b S Z) : tkM' B L Z := tkM_fr h (g.1 3 (by decide) (by decide)) (g.1 4 (by decide) (by decide)) (g.1 5 (by decide) (by decide)) (by rw [g.2.2.2.1])
theorem lM_si {B : Nat → Nat} {L q j : Nat} {p : pst} {S : qv_St} {x : Int32} (h : lM B L p S) (hq : q ≠ 0 ∨ (j ≠ 11 ∧ j ≠ 13 ∧ j ≠ 14)) : lM B L p (qv_si S q j x) := by
  have e : ∀ k, (k = 11 ∨ k = 13 ∨ k = 14) → (qv_si S q j x).1 0 k = S.1 0 k := by
    intro k hk
    rw [qs_si]
    by_cases hz : q = 0
    · subst hz; rw [qs_eq, upd_ne (by omega)]
    · rw [qs_ne (by omega)]
  exact lM_fr h (e 11 (by omega)) (e 13 (by omega)) (e 14 (by omega))
/-- a term: where it begins (29), the E, where it ends (30); one branch more -/
theorem termX {B : Nat → Nat} {L sd c b : Nat} {p : pst} {S : qv_St} (hV : ∀ i, tvn B L i < 2 ^ 31) (h : lM B L p S) (hw : qW B L p) (ht : tkM' B L S) (hsd : sd ≤ 1) (h39 : S.1 0 39 = nI b) (hb1 : 130 * sd ≤ b) (hb2 : b < 130 * sd + 130) (hs : p.2.1 = 0 → S.1 0 12 = 0 ∧ S.1 0 45 = nI c ∧ c ≤ 420 * sd + p.1) :
    okk (fX12_term S) (fun Z => lM B L (sX (tk B L) (tvn B L) p).1 Z ∧ fmT sd c b S Z ∧ Z.1 0 39 = nI (b + 1) ∧ (∀ q, 26 ≤ q → q ≤ 28 → Z.1 q = S.1 q) ∧ ((sX (tk B L) (tvn B L) p).1.2.1 = 0 → Z.1 0 12 = 0 ∧ cds c (sX (tk B L) (tvn B L) p).2 Z ∧ Z.1 29 b = nI c ∧ Z.1 30 b = nI (c + (sX (tk B L) (tvn B L) p).2.length))) := by
  unfold fX12_term
  rw [h39]
  refine ok_ck b rfl (by omega) (by decide) ?_
  rw [qi_cl (by omega)]
  refine ok_b (fun X => X = qv_si S 29 b (S.1 0 45)) rfl ?_
  rintro X hX
  have xl : lM B L p X := by rw [hX]; exact lM_si h (Or.inl (by decide))
  have xf : fmT sd c b S X := by rw [hX]; exact fmT_si (by decide) (by decide) (Nat.le_refl _) hb2
  have x0 : X.1 0 = S.1 0 := by rw [hX, qs_si, qs_ne (by decide)]
  have xq : ∀ q, q ≠ 29 → X.1 q = S.1 q := fun q hq => by rw [hX, qs_si, qs_ne hq]
  have x29 : X.1 29 b = S.1 0 45 := by rw [hX, qs_si, qs_eq, upd_eq]
  clear hX
  refine ok_jj (fun (K1 : qv_St → Option qv_St) => ∀ T, lM B L (sX (tk B L) (tvn B L) p).1 T → fmE sd c X T → ((sX (tk B L) (tvn B L) p).1.2.1 = 0 → T.1 0 12 = 0 ∧ cds c (sX (tk B L) (tvn B L) p).2 T) → okk (K1 T) (fun Z => lM B L (sX (tk B L) (tvn B L) p).1 Z ∧ fmT sd c b S Z ∧ Z.1 0 39 = nI (b + 1) ∧ (∀ q, 26 ≤ q → q ≤ 28 → Z.1 q = S.1 q) ∧ ((sX (tk B L) (tvn B L) p).1.2.1 = 0 → Z.1 0 12 = 0 ∧ cds c (sX (tk B L) (tvn B L) p).2 Z ∧ Z.1 29 b = nI c ∧ Z.1 30 b = nI (c + (sX (tk B L) (tvn B L) p).2.length)))) ?_ ?_
  · intro T tl tf tc
    have t39 : T.1 0 39 = nI b := by rw [tf.2.1 39 (by decide) (by decide) (by decide) (by decide) (by decide) (by decide), x0]; exact h39
    rw [t39]
    refine ok_ck b rfl (by omega) (by decide) ?_
    rw [qi_cl (by omega)]
    refine ok_b (fun Y => Y = qv_si T 30 b (T.1 0 45)) rfl ?_
    rintro Y hY
    have yl : lM B L (sX (tk B L) (tvn B L) p).1 Y := by rw [hY]; exact lM_si tl (Or.inl (by decide))
    have yf : fmT sd c b T Y := by rw [hY]; exact fmT_si (by decide) (by decide) (Nat.le_refl _) hb2
    have y0 : Y.1 0 = T.1 0 := by rw [hY, qs_si, qs_ne (by decide)]
    have yq : ∀ q, q ≠ 30 → Y.1 q = T.1 q := fun q hq => by rw [hY, qs_si, qs_ne hq]
    have y30 : Y.1 30 b = T.1 0 45 := by rw [hY, qs_si, qs_eq, upd_eq]
    clear hY
    rw [y0, t39, nI_1]
    refine ok_b (fun Z => Z = qv_si Y 0 39 (nI (b + 1))) rfl ?_
    rintro Z hZ
    have zl : lM B L (sX (tk B L) (tvn B L) p).1 Z := by rw [hZ]; exact lM_si yl (Or.inr (by decide))
    have zf : fmT sd c b Y Z := by rw [hZ]; exact fmT_39
    have z39 : Z.1 0 39 = nI (b + 1) := by rw [hZ, qs_si, qs_eq, upd_eq]
    have z0 : ∀ k, k ≠ 39 → Z.1 0 k = T.1 0 k := fun k hk => by rw [hZ, qs_si, qs_eq, upd_ne hk, y0]
    have zq : ∀ q, q ≠ 0 → Z.1 q = Y.1 q := fun q hq => by rw [hZ, qs_si, qs_ne hq]
    clear hZ
    refine ok_s ⟨zl, fmT_trans (fmT_trans xf (fmT_E tf) (Nat.le_refl _) (Nat.le_refl _)) (fmT_trans yf zf (Nat.le_refl _) (Nat.le_refl _)) (Nat.le_refl _) (Nat.le_refl _), z39, fun q q1 q3 => ?_, fun z => ?_⟩
    · rw [zq q (by omega), yq q (by omega), tf.1 q (by omega) (by omega) (by omega) (by omega), xq q (by omega)]
    · obtain ⟨t12, tcd⟩ := tc z
      obtain ⟨p0, _⟩ := sX_ok hV hw.1.1 z
      refine ⟨by rw [z0 12 (by decide)]; exact t12, ⟨by rw [z0 45 (by decide)]; exact tcd.1, by rw [zq 31 (by decide), zq 32 (by decide), yq 31 (by decide), yq 32 (by decide)]; exact tcd.2⟩, ?_, ?_⟩
      · rw [zq 29 (by decide), yq 29 (by decide), tf.1 29 (by decide) (by decide) (by decide) (by decide), x29]; exact (hs p0).2.1
      · rw [zq 30 (by decide), y30]; exact tcd.1
  · intro K1 hK1
    have hex := exprX (c0 := c) xl hw (fmT_tk ht xf) hsd (fun z => by rw [x0]; exact hs z)
    refine ok_if (fun g => ?_) (fun g => ?_)
    · refine ok_bd hex ?_
      rintro T ⟨t1, t2, t3⟩
      exact hK1 T t1 t2 t3
    · have h0 : p.2.1 ≠ 0 := fun z => g (by rw [xl.1, z]; rfl)
      have e := sX_f (K := tk B L) (V := tvn B L) h0
      refine hK1 X (by rw [e]; exact xl) fmE_rfl (fun z => ?_)
      rw [e] at z
      exact absurd z h0
