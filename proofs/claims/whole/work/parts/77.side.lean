/-! the reference's two sides -/
def wid (q : Nat) : Nat := if q = 17 then 4 else if 10 ≤ q ∧ q ≤ 15 then 8 else if q = 19 ∨ q = 20 then 6 else if q = 24 ∨ q = 25 then 3 else if 26 ≤ q ∧ q ≤ 30 then 130 else if 31 ≤ q then 420 else 1
theorem wid_1 {q : Nat} (h : q = 9 ∨ q = 16 ∨ q = 18 ∨ q = 21 ∨ q = 22 ∨ q = 23) : wid q = 1 := by
  rcases h with rfl | rfl | rfl | rfl | rfl | rfl <;> rfl
theorem wid_8 {q : Nat} (h : 10 ≤ q) (h2 : q ≤ 15) : wid q = 8 := by
  unfold wid
  rw [if_neg (by omega), if_pos ⟨h, h2⟩]
theorem wid_130 {q : Nat} (h : 26 ≤ q) (h2 : q ≤ 30) : wid q = 130 := by
  unfold wid
  rw [if_neg (by omega), if_neg (by omega), if_neg (by omega), if_neg (by omega), if_pos ⟨h, h2⟩]
def fmS (sd : Nat) (S Z : qv_St) : Prop := (∀ q, q ≠ 0 → (q < 9 ∨ 33 < q) → Z.1 q = S.1 q) ∧ (∀ q, 9 ≤ q → q ≤ 32 → ∀ j, j / wid q ≠ sd → Z.1 q j = S.1 q j) ∧ (∀ k, (k < 11 ∨ 16 < k) → k ≠ 20 → k ≠ 39 → k ≠ 45 → k ≠ 49 → Z.1 0 k = S.1 0 k) ∧ (∀ q, q ≠ 8 → Z.2 q = S.2 q)
theorem fmS_rfl {sd : Nat} {S : qv_St} : fmS sd S S := ⟨fun _ _ _ => rfl, fun _ _ _ _ _ => rfl, fun _ _ _ _ _ _ => rfl, fun _ _ => rfl⟩
theorem fmS_trans {sd : Nat} {S T U : qv_St} (h : fmS sd S T) (g : fmS sd T U) : fmS sd S U := ⟨fun q a b => (g.1 q a b).trans (h.1 q a b), fun q a b j c => (g.2.1 q a b j c).trans (h.2.1 q a b j c), fun k a b c d e => (g.2.2.1 k a b c d e).trans (h.2.2.1 k a b c d e), fun q a => (g.2.2.2 q a).trans (h.2.2.2 q a)⟩
theorem fmS_B {sd : Nat} {S T : qv_St} (h : fmB S T) : fmS sd S T := ⟨fun q a _ => h.1 q a, fun q a _ j _ => by rw [h.1 q (by omega)], fun k a _ _ _ _ => h.2.1 k (by omega) (by omega) (by omega) (by omega) (by omega), fun q _ => by rw [h.2.2]⟩
theorem fmS_si {sd q j : Nat} {S : qv_St} {x : Int32} (h1 : 9 ≤ q) (h2 : q ≤ 32) (h3 : j / wid q = sd) : fmS sd S (qv_si S q j x) := ⟨fun r a b => by rw [qs_si, qs_ne (by omega)], fun r a b k hk => by
    rw [qs_si]
    by_cases e : r = q
    · rw [e, qs_eq]
      rw [e] at hk
      exact upd_ne (fun z => hk (by rw [z]; exact h3))
    · rw [qs_ne e], fun k _ _ _ _ _ => by rw [qs_si, qs_ne (by omega)], fun _ _ => rfl⟩
theorem fmS_W {sd c b k : Nat} {S Z : qv_St} (h : fmW sd c b (3 * sd + k) S Z) (hk : k < 3) (hb : 130 * sd ≤ b) (hc : 420 * sd ≤ c) : fmS sd S Z := by
  refine ⟨fun q a d => h.1 q a (by omega), fun q a d j hj => ?_, fun k a1 a2 a3 a4 a5 => h.2.2.2.1 k (by omega) (by omega) (by omega) (by omega) a3 a4 a5, fun q _ => by rw [h.2.2.2.2.1]⟩
  by_cases e1 : q < 24
  · rw [h.1 q (by omega) (Or.inl e1)]
  by_cases e2 : q ≤ 25
  · have e3 : q = 24 ∨ q = 25 := by omega
    have w3 : wid q = 3 := by rcases e3 with e | e <;> rw [e] <;> rfl
    rw [w3] at hj
    exact h.2.1 q e3 j (by omega)
  by_cases e3 : q ≤ 30
  · rw [wid_130 (by omega) e3] at hj
    exact h.2.2.1 q (by omega) e3 j (by omega)
  · have e4 : q = 31 ∨ q = 32 := by omega
    have w4 : wid q = 420 := by rcases e4 with e | e <;> rw [e] <;> rfl
    rw [w4] at hj
    have := h.2.2.2.2.2 j (by omega)
    rcases e4 with e | e
    · rw [e]; exact this.1
    · rw [e]; exact this.2
/-- the side that lives stays as it is -/
theorem mS_live {lv sd : Nat} {D : Nat → Nat → Nat} {W : Nat → List lwB} {S Z : qv_St} (h : mS lv D W S.1) (hv : vD D) (f : fmS sd S Z) (hne : lv ≠ sd) : mS lv D W Z.1 := by
  obtain ⟨a0, a1, a2, a3, a4, a5, a6, a7, a8, a9, a10, a11⟩ := h
  obtain ⟨v0, v1, v2, _⟩ := hv
  have one : ∀ q, (q = 9 ∨ q = 16 ∨ q = 18 ∨ q = 21 ∨ q = 22 ∨ q = 23) → Z.1 q lv = S.1 q lv := fun q hq => f.2.1 q (by omega) (by omega) lv (by rw [wid_1 hq, Nat.div_one]; exact hne)
  refine ⟨a0, by rw [f.2.2.1 18 (by decide) (by decide) (by decide) (by decide) (by decide)]; exact a1, by rw [one 9 (by omega)]; exact a2, by rw [one 16 (by omega)]; exact a3, by rw [one 18 (by omega)]; exact a4, by rw [one 21 (by omega)]; exact a5, by rw [one 22 (by omega)]; exact a6, by rw [one 23 (by omega)]; exact a7, fun q q1 q2 k hk => ?_, fun p hp => ?_, fun s hs => ?_, fun k hk => ?_⟩
  · rw [f.2.1 q (by omega) (by omega) _ (by rw [wid_8 q1 q2]; omega)]; exact a8 q q1 q2 k hk
  · rw [f.2.1 17 (by decide) (by decide) _ (by rw [show wid 17 = 4 from rfl]; omega)]; exact a9 p hp
  · rw [f.2.1 19 (by decide) (by decide) _ (by rw [show wid 19 = 6 from rfl]; omega), f.2.1 20 (by decide) (by decide) _ (by rw [show wid 20 = 6 from rfl]; omega)]; exact a10 s hs
  · have e24 : Z.1 24 (3 * lv + k) = S.1 24 (3 * lv + k) := f.2.1 24 (by decide) (by decide) _ (by rw [show wid 24 = 3 from rfl]; omega)
    have e25 : Z.1 25 (3 * lv + k) = S.1 25 (3 * lv + k) := f.2.1 25 (by decide) (by decide) _ (by rw [show wid 25 = 3 from rfl]; omega)
    have hl := a11 k hk
    unfold mLaw at hl ⊢
    rw [e24, e25]
    rcases hl with hl | ⟨fi, h1, h2, ⟨h3, h4, h5⟩, h6, h7⟩
    · exact Or.inl hl
    · refine Or.inr ⟨fi, h1, h2, ⟨h3, h4, h5⟩, h6, ?_⟩
      have hd3 : (3 * lv + k) / 3 = lv := by omega
      rw [hd3] at h4 h5
      refine brsAt_ag (PB := fun b => b / 130 = lv) (PC := fun j => j / 420 = lv) (fun q q1 q2 b hb => ?_) (fun j hj => ?_) _ fi (fun b b1 b2 => by show b / 130 = lv; omega) (fun b b1 b2 x y hr hy j j1 j2 => ?_) h7
      · exact f.2.1 q (by omega) (by omega) b (by rw [wid_130 q1 q2]; show ¬ b / 130 = sd; rw [show b / 130 = lv from hb]; exact hne)
      · have hj : j / 420 = lv := hj
        exact ⟨f.2.1 31 (by decide) (by decide) j (by rw [show wid 31 = 420 from rfl, hj]; exact hne), f.2.1 32 (by decide) (by decide) j (by rw [show wid 32 = 420 from rfl, hj]; exact hne)⟩
      · obtain ⟨r1, r2, r3⟩ := hr
        have hb : b / 130 = lv := by omega
        rw [hb] at r2 r3
        show j / 420 = lv
        omega
/-! what the other side holds -/
def mDat (sd : Nat) (D : Nat → Nat → Nat) (G : Nat → Nat → Int32) : Prop := G 9 sd = nI (D 9 0) ∧ G 16 sd = nI (D 9 1) ∧ G 18 sd = nI (D 9 2) ∧ G 21 sd = nI (D 9 15) ∧ G 22 sd = nI (D 9 16) ∧ G 23 sd = nI (D 9 17) ∧ (∀ q, 10 ≤ q → q ≤ 15 → ∀ k, k < D 9 0 → G q (8 * sd + k) = nI (D q k)) ∧ (∀ p, p < D 9 1 → G 17 (4 * sd + p) = nI (D 16 p)) ∧ (∀ s, s < D 9 2 → G 19 (6 * sd + s) = nI (D 17 s) ∧ G 20 (6 * sd + s) = nI (D 18 s))
def lawU (G : Nat → Nat → Int32) (a br cd : Nat) : Prop := G 24 a = G 25 a ∨ ∃ f n, G 24 a = nI f ∧ G 25 a = nI (f + n) ∧ f + n ≤ br ∧ brU G f n cd
def mLaws (sd : Nat) (W : Nat → List lwB) (G : Nat → Nat → Int32) (br cd : Nat) : Prop := ∀ k, k < 3 → mLaw G (3 * sd + k) k (W k) ∧ lawU G (3 * sd + k) br cd
theorem mDat_G {sd : Nat} {D : Nat → Nat → Nat} {G G' : Nat → Nat → Int32} (h : ∀ q, 9 ≤ q → q ≤ 23 → G' q = G q) (hm : mDat sd D G) : mDat sd D G' := by
  obtain ⟨a2, a3, a4, a5, a6, a7, a8, a9, a10⟩ := hm
  exact ⟨by rw [h 9 (by decide) (by decide)]; exact a2, by rw [h 16 (by decide) (by decide)]; exact a3, by rw [h 18 (by decide) (by decide)]; exact a4, by rw [h 21 (by decide) (by decide)]; exact a5, by rw [h 22 (by decide) (by decide)]; exact a6, by rw [h 23 (by decide) (by decide)]; exact a7, fun q q1 q2 k hk => by rw [h q (by omega) (by omega)]; exact a8 q q1 q2 k hk, fun p hp => by rw [h 17 (by decide) (by decide)]; exact a9 p hp, fun s hs => by rw [h 19 (by decide) (by decide), h 20 (by decide) (by decide)]; exact a10 s hs⟩
theorem mLaw_gr {G G' : Nat → Nat → Int32} {a k br cd br' cd' : Nat} {brs : List lwB} (hbr : br ≤ 260) (hcd : cd ≤ 840) (hbr' : br ≤ br') (hcd' : cd ≤ cd') (e24 : G' 24 a = G 24 a) (e25 : G' 25 a = G 25 a) (h1 : ∀ q, 26 ≤ q → q ≤ 30 → ∀ j, j < br → G' q j = G q j) (h2 : ∀ j, j < cd → G' 31 j = G 31 j ∧ G' 32 j = G 32 j) (h : mLaw G a k brs) (hu : lawU G a br cd) : mLaw G' a k brs ∧ lawU G' a br' cd' := by
  unfold mLaw lawU at *
  rw [e24, e25]
  rcases hu with hu | ⟨f', n', u1, u2, u3, u4⟩
  · refine ⟨?_, Or.inl hu⟩
    rcases h with h | ⟨f, g1, g2, ⟨g3, g3'⟩, g4, g5⟩
    · exact Or.inl h
    · exfalso
      rw [g1, g2] at hu
      have := (nI_eq (by omega) (by omega)).mp hu
      exact g4 (List.eq_nil_of_length_eq_zero (by omega))
  · have hU : brU G' f' n' cd' := fun b b1 b2 => by
      obtain ⟨y, y1, y2⟩ := u4 b b1 b2
      exact ⟨y, by omega, by rw [h1 30 (by decide) (by decide) b (by omega)]; exact y2⟩
    refine ⟨?_, Or.inr ⟨f', n', u1, u2, by omega, hU⟩⟩
    rcases h with h | ⟨f, g1, g2, ⟨g3, g3'⟩, g4, g5⟩
    · exact Or.inl h
    · have ef : f = f' := (nI_eq (by omega) (by omega)).mp (g1.symm.trans u1)
      have en : f + brs.length = f' + n' := (nI_eq (by omega) (by omega)).mp (g2.symm.trans u2)
      have en2 : brs.length = n' := by omega
      rw [← ef, ← en2] at u4
      exact Or.inr ⟨f, g1, g2, ⟨g3, g3'⟩, g4, (grow_brs (b := f + brs.length) rfl hcd (fun q q1 q2 j hj => h1 q q1 q2 j (by omega)) h2 g5 u4).1⟩
theorem mLaws_G {sd br cd : Nat} {W : Nat → List lwB} {G G' : Nat → Nat → Int32} (hbr : br ≤ 260) (hcd : cd ≤ 840) (h : ∀ q, 24 ≤ q → q ≤ 32 → G' q = G q) (hm : mLaws sd W G br cd) : mLaws sd W G' br cd := fun k hk =>
  mLaw_gr hbr hcd (Nat.le_refl _) (Nat.le_refl _) (by rw [h 24 (by decide) (by decide)]) (by rw [h 25 (by decide) (by decide)]) (fun q q1 q2 j _ => by rw [h q (by omega) (by omega)]) (fun j _ => by rw [h 31 (by decide) (by decide), h 32 (by decide) (by decide)]; exact ⟨rfl, rfl⟩) (hm k hk).1 (hm k hk).2
/-! the walk of a TELL with a name -/
def nP_ (K : Nat → Nat) (t j : Nat) : pst := its K j (sOnly K 22 (sPass (t, 0, 0)))
theorem its_snoc {K : Nat → Nat} : ∀ (m : Nat) (p : pst), its K (m + 1) p = sOnly K 23 (its K m p)
  | 0, _ => rfl
  | m + 1, p => by
    rw [its]
    rw [its_snoc m (sOnly K 23 p)]
    rfl
theorem nP_s {K : Nat → Nat} {t j : Nat} : nP_ K t (j + 1) = sOnly K 23 (nP_ K t j) := its_snoc j _
theorem nP_ok {K : Nat → Nat} {t j : Nat} (h : (nP_ K t j).2.1 = 0) : nP_ K t j = (t + 2 + j, 0, 0) ∧ K (t + 1) = 22 ∧ (∀ i, i < j → K (t + 2 + i) = 23) ∧ t + 1 < 400 := by
  obtain ⟨h1, h2, h3⟩ := its_ok j _ h
  obtain ⟨a1, a2, a3, a4⟩ := sOnly_ok h1
  obtain ⟨b1, b2, b3⟩ := sPass_ok a1
  rw [b3] at a2 a3 a4
  rw [b3, a4] at h2 h3
  refine ⟨?_, a2, h3, a3⟩
  unfold nP_
  rw [b3, a4]
  exact h2
theorem nP_q {B : Nat → Nat} {L t : Nat} (hk : tk B L t ≠ 24) (h4 : t ≤ 400) (hn : t ≤ nT B L) : ∀ j, qW B L (nP_ (tk B L) t j)
  | 0 => sOnly_q (sPass_q ⟨⟨h4, Nat.zero_le _⟩, fun _ => hn⟩ (fun _ => hk)) (by decide)
  | j + 1 => by rw [nP_s]; exact sOnly_q (nP_q hk h4 hn j) (by decide)
theorem nP_hd {K : Nat → Nat} {t j : Nat} (hh : hdT K t = t) (hk : K t ≤ 3) (h : (nP_ K t j).2.1 = 0) : hdT K (t + 2 + j) = t := by
  obtain ⟨h1, h2, h3, h4⟩ := nP_ok h
  have := hdT_rg (K := K) (a := t) (2 + j) (fun i i1 i2 => by
    by_cases e1 : i = t
    · rw [e1]; omega
    by_cases e2 : i = t + 1
    · rw [e2, h2]; decide
    · have := h3 (i - (t + 2)) (by omega)
      rw [show t + 2 + (i - (t + 2)) = i by omega] at this
      rw [this]; decide)
  rw [Nat.add_assoc, this, hh]
/-- a number, and where it goes -/
theorem bstep {B : Nat → Nat} {L t j a b q idx lim : Nat} {U : qv_St} {k : qv_St → Option qv_St} {Q : qv_St → Prop} (hL : L ≤ 2000) (hp : ∀ i, i < nT B L → ps B L i < L) (hk24 : tk B L t ≠ 24) (h4 : t ≤ 400) (hn : t ≤ nT B L) (hh : hdT (tk B L) t = t) (hk3 : tk B L t ≤ 3) (ha : a < 2 ^ 31) (hb : b < 2 ^ 31) (hq : q ≠ 0) (hq3 : 9 ≤ q) (hidx : idx < lim) (hlim : lim < 2 ^ 31) (ul : lM B L (nP_ (tk B L) t j) U) (ht : tkM' B L U) (uw : (nP_ (tk B L) t j).2.1 = 0 → wM B L (t + 2 + j) U) (hfit : ∀ v, (a ≤ v ∧ v ≤ b) ↔ fitP (tk B L t) (j + 2) v)
    (hk : ∀ X, lM B L (nP_ (tk B L) t (j + 1)) X → tkM' B L X → (∀ r, r ≠ 0 → r ≠ q → X.1 r = U.1 r) → (∃ v, X.1 q = upd (U.1 q) idx v ∧ ((nP_ (tk B L) t (j + 1)).2.1 = 0 → v = nI (tvn B L (t + 2 + j)))) → (∀ s, s ≠ 11 → s ≠ 13 → s ≠ 14 → s ≠ 15 → s ≠ 16 → X.1 0 s = U.1 0 s) → X.2 = U.2 → ((nP_ (tk B L) t (j + 1)).2.1 = 0 → wM B L (t + 2 + (j + 1)) X) → okk (k X) Q) :
    okk (qv_cm (fX12_bounded U (nI a) (nI b)) fun S_7 r_2 => qv_ck (nI idx) lim (qv_b (qv_si S_7 q idx r_2) fun S_8 => k S_8)) Q := by
  have hqq := nP_q hk24 h4 hn j
  refine ok_cm (boundedM hL hp ul hqq ht ha hb (fun z => ?_) (fun z _ => ?_)) ?_
  · have := (nP_ok z).1
    rw [this]; exact uw z
  · have e := (nP_ok z).1
    rw [e]
    show (a ≤ tvn B L (t + 2 + j) ∧ tvn B L (t + 2 + j) ≤ b) ↔ fitP (tk B L (hdT (tk B L) (t + 2 + j))) (t + 2 + j - hdT (tk B L) (t + 2 + j)) (tvn B L (t + 2 + j))
    rw [nP_hd hh hk3 z, show t + 2 + j - t = j + 2 by omega]
    exact hfit _
  rintro Y r ⟨y1, y2, y3⟩
  have y2 : fmB U Y := y2
  rw [← nP_s] at y1 y3
  refine ok_ck idx rfl hidx hlim ?_
  simp only [qb_e]
  have y3 : (nP_ (tk B L) t (j + 1)).2.1 = 0 → r = nI (tvn B L (nP_ (tk B L) t j).1) ∧ wM B L ((nP_ (tk B L) t j).1 + 1) Y := y3
  refine hk _ (lM_si y1 (Or.inl hq)) (tkM_fr (fmB_tk ht y2) (by rw [qs_si, qs_ne (by omega)]) (by rw [qs_si, qs_ne (by omega)]) (by rw [qs_si, qs_ne (by omega)]) rfl) (fun r r1 r2 => ?_) ⟨r, ?_, fun z => ?_⟩ (fun s s1 s2 s3 s4 s5 => ?_) y2.2.2 (fun z => ?_)
  · rw [qs_si, qs_ne r2]; exact y2.1 r r1
  · rw [qs_si, qs_eq, y2.1 q hq]
  · have z0 : (nP_ (tk B L) t j).2.1 = 0 := by rw [nP_s] at z; exact (sOnly_ok z).1
    have e := (nP_ok z0).1
    have := (y3 z).1
    rw [e] at this
    exact this
  · rw [qs_si, qs_ne (Ne.symm hq)]; exact y2.2.1 s s1 s2 s3 s4 s5
  · have z0 : (nP_ (tk B L) t j).2.1 = 0 := by rw [nP_s] at z; exact (sOnly_ok z).1
    have e := (nP_ok z0).1
    have := (y3 z).2
    rw [e] at this
    exact wM_fr this (by rw [qs_si, qs_ne (Ne.symm hq)]) (by rw [qs_si, qs_ne (Ne.symm hq)])
theorem roomM {B : Nat → Nat} {L t a b : Nat} {S : qv_St} (hl : lM B L (t, 0, 0) S) (h4 : t ≤ 400) (hn : t ≤ nT B L) (ht : tkM' B L S) (ha : a ≤ b) (hb : b ≤ 8) : okk (fX12_roomFor S (nI a) (nI b)) (fun Z => (a < b → lM B L (sPass (t, 0, 0)) Z) ∧ (¬ a < b → lM B L (sRef 2 (t, 0, 0)) Z) ∧ fmP S Z) := by
  have hq : qW B L (t, 0, 0) := ⟨⟨h4, Nat.zero_le _⟩, fun _ => hn⟩
  unfold fX12_roomFor
  simp only [qj_e]
  by_cases g : a < b
  · refine ok_neg (fun z => by have := (nI_eq (by omega) (by omega)).mp z; omega) (ok_pos hl.1 (ok_bd (goesL hl hq ht) ?_))
    rintro Z ⟨z1, z2⟩
    exact ok_s ⟨fun _ => z1, fun z => absurd g z, z2⟩
  · refine ok_pos (by rw [show a = b by omega]) (ok_bd (failL 2 hl hq ht) ?_)
    rintro Z ⟨z1, z2⟩
    have z1' : Z.1 0 13 = nI 2 := z1.1
    exact ok_neg (by rw [z1']; decide) (ok_s ⟨fun z => absurd z g, fun _ => z1, z2⟩)
