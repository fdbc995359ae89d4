/-! laws: their meaning, and asks on the reference's side -/
abbrev lwC : Type := List (Int32 × Int32)
abbrev lwB : Type := Option (lwC × lwC) × lwC
def tv (vars : Nat → Int32) (c : lwC) : Option Int32 := match srun vars c [] with
  | some (v :: _) => some v
  | _ => none
def lawV (vars : Nat → Int32) : List lwB → Int32
  | [] => 0
  | (some (c1, c2), c3) :: t => match tv vars c1, tv vars c2 with
    | some u, some v => if u < v then (tv vars c3).getD 0 else lawV vars t
    | _, _ => 0
  | (none, c3) :: _ => (tv vars c3).getD 0
def clp (most x : Int32) : Int32 := if x < 0 then 0 else if most < x then most else x
def lwf : List lwB → Prop
  | [] => True
  | (some (c1, c2), c3) :: t => swf c1 0 ∧ swf c2 0 ∧ swf c3 0 ∧ lwf t
  | (none, c3) :: t => swf c3 0 ∧ lwf t
/-- codes of a branch lie on its side -/
def rgB (b x y : Nat) : Prop := y ≤ 840 ∧ 420 * (b / 130) ≤ x ∧ y ≤ 420 * (b / 130) + 420
def brAt (G : Nat → Nat → Int32) (b : Nat) : lwB → Prop
  | (some (c1, c2), c3) => G 26 b = 1 ∧ ∃ x, G 27 b = nI x ∧ G 28 b = nI (x + c1.length) ∧ G 29 b = nI (x + c1.length + c2.length) ∧ G 30 b = nI (x + c1.length + c2.length + c3.length) ∧ rgB b x (x + c1.length + c2.length + c3.length) ∧ codeAt (G 31) (G 32) x c1 ∧ codeAt (G 31) (G 32) (x + c1.length) c2 ∧ codeAt (G 31) (G 32) (x + c1.length + c2.length) c3
  | (none, c3) => G 26 b = 0 ∧ ∃ x, G 29 b = nI x ∧ G 30 b = nI (x + c3.length) ∧ rgB b x (x + c3.length) ∧ codeAt (G 31) (G 32) x c3
def brsAt (G : Nat → Nat → Int32) : Nat → List lwB → Prop
  | _, [] => True
  | b, br :: t => brAt G b br ∧ brsAt G (b + 1) t
/-- what termOf gives, in short -/
def frA (S S' : qv_St) : Prop := S'.2 = S.2 ∧ (∀ q, q ≠ 0 → q ≠ 35 → S'.1 q = S.1 q) ∧ (∀ j, j ≠ 52 → S'.1 0 j = S.1 0 j)
theorem frA_rf {S : qv_St} : frA S S := ⟨rfl, fun _ _ _ => rfl, fun _ _ => rfl⟩
theorem frA_tr {S T U : qv_St} (h : frA S T) (h2 : frA T U) : frA S U := ⟨h2.1.trans h.1, fun q a b => (h2.2.1 q a b).trans (h.2.1 q a b), fun j a => (h2.2.2 j a).trans (h.2.2 j a)⟩
theorem tv_of {vars : Nat → Int32} {c : lwC} {st : List Int32} (hw : swf c 0) (h : srun vars c [] = some st) : ∃ v, st = [v] ∧ tv vars c = some v := by
  have h1 := srun_len c [] st hw h
  match st, h1 with
  | [v], _ => exact ⟨v, rfl, by rw [tv, h]⟩
theorem termM2 {S : qv_St} {a b : Nat} {c : lwC} (hw : swf c 0) (hc : codeAt (S.1 31) (S.1 32) a c) (hb : a + c.length = b) (hb2 : b ≤ 840) : okk (fX12_termOf S (nI a) (nI b)) (fun z => frA S z.1 ∧ (∀ v, tv (S.1 34) c = some v → z.2 = v ∧ z.1.1 0 52 = S.1 0 52) ∧ (tv (S.1 34) c = none → z.1.1 0 52 = 1)) := by
  refine ok_mono (termM hw hc hb hb2) (fun z hz => ?_)
  cases h : srun (S.1 34) c [] with
  | none =>
    rw [h] at hz
    obtain ⟨P, rfl⟩ := hz
    have ht : tv (S.1 34) c = none := by rw [tv, h]
    refine ⟨⟨rfl, fun q h1 h2 => ?_, fun j hj => ?_⟩, fun v hv => ?_, fun _ => ?_⟩
    · show (qs (qs S 35 P) 0 _).1 q = _
      rw [qs_ne h1, qs_ne h2]
    · show (qs (qs S 35 P) 0 _).1 0 j = _
      rw [qs_eq, upd_ne hj]
    · rw [ht] at hv; cases hv
    · show (qs (qs S 35 P) 0 _).1 0 52 = _
      rw [qs_eq, upd_eq]
  | some st =>
    rw [h] at hz
    obtain ⟨P, hp, rfl⟩ := hz
    obtain ⟨v, rfl, hv⟩ := tv_of hw h
    refine ⟨⟨rfl, fun q h1 h2 => ?_, fun j hj => ?_⟩, fun w hw => ?_, fun hn => ?_⟩
    · show (qs S 35 P).1 q = _
      rw [qs_ne h2]
    · show (qs S 35 P).1 0 j = _
      rw [qs_ne (by decide)]
    · rw [hv] at hw
      cases hw
      exact ⟨hp.1, by show (qs S 35 P).1 0 52 = _; rw [qs_ne (by decide)]⟩
    · rw [hv] at hn; cases hn
theorem codeAt_congr {A B A' B' : Nat → Int32} (h1 : A' = A) (h2 : B' = B) {a : Nat} {c : lwC} (h : codeAt A B a c) : codeAt A' B' a c := by rw [h1, h2]; exact h
def lwD (k : Nat) : List lwB := if k = 0 then [(none, [(1, 0)])] else if k = 1 then [(none, [(1, 4)])] else [(none, [(0, 0)])]
def mLaw (G : Nat → Nat → Int32) (at_ k : Nat) (brs : List lwB) : Prop := (G 24 at_ = G 25 at_ ∧ brs = lwD k) ∨ (∃ f, G 24 at_ = nI f ∧ G 25 at_ = nI (f + brs.length) ∧ (f + brs.length ≤ 260 ∧ 130 * (at_ / 3) ≤ f ∧ f + brs.length ≤ 130 * (at_ / 3) + 130) ∧ brs ≠ [] ∧ brsAt G f brs)
theorem asksM {S : qv_St} {lv k : Nat} {brs : List lwB} {plain most : Int32} (hl : S.1 0 18 = nI lv) (hlv : lv ≤ 1) (hk : k < 3) (hm : mLaw S.1 (3 * lv + k) k brs) (hw : lwf brs) (hm0 : 0 ≤ most) (hp : brs = lwD k → plain = clp most (lawV (S.1 34) brs)) :
    okk (fX12_asks S (nI k) plain most) (fun z => z.2 = clp most (lawV (S.1 34) brs) ∧ frA S z.1) := by
  have hix : 3 * S.1 0 18 + nI k = nI (3 * lv + k) := by
    rw [hl, show (3 : Int32) = nI 3 from rfl, pk_mul, nI_add]
  have hi : 3 * lv + k < 6 := by omega
  unfold fX12_asks
  have hN5 := qN
  generalize qv_N = N at hN5 ⊢
  simp only [qj_e, qb_e]
  rw [hix]
  refine ok_ck _ rfl hi (by omega) (ok_ck _ rfl hi (by omega) ?_)
  rw [qi_cl (by omega : 3 * lv + k < 2 ^ 31)]
  rcases hm with ⟨h1, h2⟩ | ⟨f, h1, h2, ⟨h3, _⟩, h4, h5⟩
  · exact ok_pos h1 (ok_s ⟨hp h2, frA_rf⟩)
  have hn0 : 0 < brs.length := by
    cases brs with
    | nil => exact absurd rfl h4
    | cons b t => exact Nat.succ_pos _
  refine ok_neg (by rw [h1, h2]; intro z; have := (nI_eq (by omega) (by omega)).mp z; omega) ?_
  refine ok_ck _ rfl hi (by omega) ?_
  have e24 : (qv_si S 0 52 0).1 24 = S.1 24 := by rw [qs_si, qs_ne (by decide)]
  rw [e24, h1]
  refine ok_lp2 (fun n S4 x => ∃ t b, n = t.length ∧ x = nI b ∧ frA S S4 ∧ S4.1 0 52 = 0 ∧ brsAt S.1 b t ∧ lwf t ∧ b + t.length = f + brs.length ∧ lawV (S.1 34) t = lawV (S.1 34) brs) ?_ N brs.length _ _ ⟨brs, f, rfl, rfl, ⟨rfl, fun q h1 h2 => by rw [qs_si, qs_ne h1], fun j hj => by rw [qs_si, qs_eq, upd_ne hj]⟩, by rw [qs_si, qs_eq, upd_eq], h5, hw, rfl, rfl⟩ (by omega)
  rintro self n S4 x ⟨t, b, rfl, rfl, hf, h52, hbr, hw, hb, hlaw⟩ ih
  refine ok_ck _ rfl hi (by omega) ?_
  rw [hf.2.1 25 (by decide) (by decide), h2]
  match t, hbr, hw, hb, hlaw, ih with
  | [], hbr, hw, hb, hlaw, ih =>
    refine ok_pos (nI_le (by rw [← hb]; exact Nat.le_refl _) (by omega)) (ok_s ⟨?_, hf⟩)
    rw [← hlaw]
    show (0 : Int32) = clp most 0
    rw [clp, if_neg (by decide), if_neg (Int32.not_lt.mpr hm0)]
  | br :: t, hbr, hw, hb, hlaw, ih =>
    have hb : b + (t.length + 1) = f + brs.length := hb
    refine ok_neg (nI_ge (by omega) (by omega)) ?_
    refine ok_ck b rfl (by omega) (by omega) ?_
    rw [qi_cl (by omega : b < 2 ^ 31)]
    have hterm : ∀ (T : qv_St) (c3 : lwC) (x : Nat), frA S T → T.1 0 52 = 0 → swf c3 0 → S.1 29 b = nI x → S.1 30 b = nI (x + c3.length) → x + c3.length ≤ 840 → codeAt (S.1 31) (S.1 32) x c3 → lawV (S.1 34) brs = (tv (S.1 34) c3).getD 0 →
        okk (qv_ck (nI b) 260 (qv_ck (nI b) 260 (qv_cm (fX12_termOf T (T.1 29 b) (T.1 30 b)) fun S_3 r_1 => if S_3.1 0 52 = 0 then if 0 ≤ r_1 then if r_1 ≤ most then some (S_3, r_1) else some (S_3, most) else some (S_3, 0) else some (S_3, 0)))) (fun z => z.2 = clp most (lawV (S.1 34) brs) ∧ frA S z.1) := by
      intro T c3 x hT hT52 hw3 e29 e30 hx hcode hlw
      refine ok_ck b rfl (by omega) (by omega) (ok_ck b rfl (by omega) (by omega) ?_)
      rw [hT.2.1 29 (by decide) (by decide), hT.2.1 30 (by decide) (by decide), e29, e30]
      refine ok_cm (termM2 hw3 (codeAt_congr (hT.2.1 31 (by decide) (by decide)) (hT.2.1 32 (by decide) (by decide)) hcode) rfl hx) (fun S3 r1 hr => ?_)
      obtain ⟨hr1, hr2, hr3⟩ := hr
      have hr1 : frA T S3 := hr1
      rw [hT.2.1 34 (by decide) (by decide)] at hr2 hr3
      cases htv : tv (S.1 34) c3 with
      | none =>
        refine ok_neg (by rw [show S3.1 0 52 = 1 from hr3 htv]; decide) (ok_s ⟨?_, frA_tr hT hr1⟩)
        rw [hlw, htv]
        show (0 : Int32) = clp most 0
        rw [clp, if_neg (by decide), if_neg (Int32.not_lt.mpr hm0)]
      | some v =>
        obtain ⟨g1, g2⟩ := hr2 v htv
        have g1 : r1 = v := g1
        subst g1
        refine ok_pos (by rw [show S3.1 0 52 = T.1 0 52 from g2, hT52]) ?_
        rw [hlw, htv]
        show okk _ (fun z : qv_St × Int32 => z.2 = clp most r1 ∧ frA S z.1)
        refine ok_if (fun h7 => ok_if (fun h8 => ok_s ⟨?_, frA_tr hT hr1⟩) (fun h8 => ok_s ⟨?_, frA_tr hT hr1⟩)) (fun h7 => ok_s ⟨?_, frA_tr hT hr1⟩)
        · rw [clp, if_neg (Int32.not_lt.mpr h7), if_neg (Int32.not_lt.mpr h8)]
        · rw [clp, if_neg (Int32.not_lt.mpr h7), if_pos (Int32.not_le.mp h8)]
        · rw [clp, if_pos (Int32.not_le.mp h7)]
    match br, hbr, hw, hlaw with
    | (none, c3), hbr, hw, hlaw =>
      obtain ⟨⟨g1, x, g2, g3, ⟨g4, _⟩, g5⟩, hbr2⟩ := hbr
      refine ok_pos (by rw [hf.2.1 26 (by decide) (by decide), g1]) ?_
      exact hterm S4 c3 x hf h52 hw.1 g2 g3 g4 g5 hlaw.symm
    | (some (c1, c2), c3), hbr, hw, hlaw =>
      obtain ⟨⟨g1, x, g2, g3, g4, g5, ⟨g6, _⟩, g7, g8, g9⟩, hbr2⟩ := hbr
      obtain ⟨w1, w2, w3, w4⟩ := hw
      refine ok_neg (by rw [hf.2.1 26 (by decide) (by decide), g1]; decide) ?_
      refine ok_ck b rfl (by omega) (by omega) (ok_ck b rfl (by omega) (by omega) ?_)
      rw [hf.2.1 27 (by decide) (by decide), hf.2.1 28 (by decide) (by decide), g2, g3]
      refine ok_cm (termM2 w1 (codeAt_congr (hf.2.1 31 (by decide) (by decide)) (hf.2.1 32 (by decide) (by decide)) g7) rfl (by omega)) (fun S5 r2 hr => ?_)
      obtain ⟨f5, f52, f53⟩ := hr
      have f5 : frA S4 S5 := f5
      have hf5 := frA_tr hf f5
      rw [hf.2.1 34 (by decide) (by decide)] at f52 f53
      refine ok_ck b rfl (by omega) (by omega) (ok_ck b rfl (by omega) (by omega) ?_)
      rw [hf5.2.1 28 (by decide) (by decide), hf5.2.1 29 (by decide) (by decide), g3, g4]
      refine ok_cm (termM2 w2 (codeAt_congr (hf5.2.1 31 (by decide) (by decide)) (hf5.2.1 32 (by decide) (by decide)) g8) rfl (by omega)) (fun S6 r3 hr => ?_)
      obtain ⟨f6, f62, f63⟩ := hr
      have f6 : frA S5 S6 := f6
      have hf6 := frA_tr hf5 f6
      rw [hf5.2.1 34 (by decide) (by decide)] at f62 f63
      have f62 : ∀ v, tv (S.1 34) c2 = some v → r3 = v ∧ S6.1 0 52 = S5.1 0 52 := f62
      have f63 : tv (S.1 34) c2 = none → S6.1 0 52 = 1 := f63
      have f52 : ∀ v, tv (S.1 34) c1 = some v → r2 = v ∧ S5.1 0 52 = S4.1 0 52 := f52
      have f53 : tv (S.1 34) c1 = none → S5.1 0 52 = 1 := f53
      have z0 : (0 : Int32) = clp most 0 := by rw [clp, if_neg (by decide), if_neg (Int32.not_lt.mpr hm0)]
      cases t1 : tv (S.1 34) c1 with
      | none =>
        have hb1 : S6.1 0 52 = 1 := by
          cases t2 : tv (S.1 34) c2 with
          | none => exact f63 t2
          | some v => rw [(f62 v t2).2, f53 t1]
        refine ok_neg (by rw [hb1]; decide) (ok_s ⟨?_, hf6⟩)
        rw [← hlaw, lawV, t1]
        exact z0
      | some u =>
        obtain ⟨rfl, k1⟩ := f52 u t1
        cases t2 : tv (S.1 34) c2 with
        | none =>
          refine ok_neg (by rw [f63 t2]; decide) (ok_s ⟨?_, hf6⟩)
          rw [← hlaw, lawV, t1, t2]
          exact z0
        | some v =>
          obtain ⟨rfl, k2⟩ := f62 v t2
          refine ok_pos (by rw [k2, k1, h52]) ?_
          rw [lawV, t1, t2] at hlaw
          dsimp only at hlaw
          refine ok_if (fun h7 => ?_) (fun h7 => ?_)
          · rw [if_pos h7] at hlaw
            exact hterm S6 c3 _ hf6 (by rw [k2, k1, h52]) w3 g4 g5 g6 g9 hlaw.symm
          · rw [if_neg h7] at hlaw
            rw [nI_1]
            exact ih t.length _ _ (Nat.lt_succ_self _) ⟨t, b + 1, rfl, rfl, hf6, by rw [k2, k1, h52], hbr2, w4, by omega, hlaw⟩
