/-! a small logic of pure programs: it answers, and the answer is so -/
def okk {ρ : Type} (o : Option ρ) (P : ρ → Prop) : Prop := ∃ r, o = some r ∧ P r
theorem ok_s {ρ : Type} {r : ρ} {P : ρ → Prop} (h : P r) : okk (some r) P := ⟨r, rfl, h⟩
theorem ok_bd {ρ τ : Type} {o : Option ρ} {k : ρ → Option τ} {P : ρ → Prop} {Q : τ → Prop} (h : okk o P) (hk : ∀ r, P r → okk (k r) Q) : okk (o.bind k) Q := by
  obtain ⟨r, rfl, h2⟩ := h
  exact hk r h2
theorem ok_cm {τ : Type} {o : Option (qv_St × Int32)} {k : qv_St → Int32 → Option τ} {P : qv_St × Int32 → Prop} {Q : τ → Prop} (h : okk o P) (hk : ∀ S r, P (S, r) → okk (k S r) Q) : okk (qv_cm o k) Q := by
  obtain ⟨⟨S, r⟩, rfl, h2⟩ := h
  exact hk S r h2
theorem ok_ck {ρ : Type} {i : Int32} {n : Nat} {o : Option ρ} {Q : ρ → Prop} (k : Nat) (hi : i = nI k) (hk : k < n) (hn : n < 2 ^ 31) (h : okk o Q) : okk (qv_ck i n o) Q := by
  subst hi
  rw [qi_ck hk hn]
  exact h
theorem ok_nz {ρ : Type} {y : Int32} {o : Option ρ} {Q : ρ → Prop} (hy : y ≠ 0) (h : okk o Q) : okk (qv_nz y o) Q := by
  rw [qv_nz, if_neg hy]
  exact h
theorem ok_if {ρ : Type} {c : Prop} [Decidable c] {a b : Option ρ} {Q : ρ → Prop} (h1 : c → okk a Q) (h2 : ¬ c → okk b Q) : okk (if c then a else b) Q := by
  by_cases h : c
  · rw [if_pos h]; exact h1 h
  · rw [if_neg h]; exact h2 h
theorem ok_pos {ρ : Type} {c : Prop} [Decidable c] {a b : Option ρ} {Q : ρ → Prop} (h : c) (h1 : okk a Q) : okk (if c then a else b) Q := by
  rw [if_pos h]; exact h1
theorem ok_neg {ρ : Type} {c : Prop} [Decidable c] {a b : Option ρ} {Q : ρ → Prop} (h : ¬ c) (h1 : okk b Q) : okk (if c then a else b) Q := by
  rw [if_neg h]; exact h1
theorem ok_mono {ρ : Type} {o : Option ρ} {P Q : ρ → Prop} (h : okk o P) (hk : ∀ r, P r → Q r) : okk o Q := by
  obtain ⟨r, h1, h2⟩ := h
  exact ⟨r, h1, hk r h2⟩
theorem ok_eq {ρ : Type} {o : Option ρ} {r : ρ} (h : o = some r) : okk o (fun z => z = r) := ⟨r, h, rfl⟩
theorem ok_lp1 {A1 ρ : Type} {f : (A1 → Option ρ) → A1 → Option ρ} {Q : ρ → Prop} (I : Nat → A1 → Prop) (hs : ∀ self n a, I n a → (∀ m a', m < n → I m a' → okk (self a') Q) → okk (f self a) Q) : ∀ N n a, I n a → n < N → okk (qv_lp1 N f a) Q := by
  intro N
  induction N with
  | zero => intro n a _ h; omega
  | succ N ih => intro n a hI h; exact hs _ n a hI (fun m a' h1 h2 => ih m a' h2 (by omega))
theorem ok_lp2 {A1 A2 ρ : Type} {f : (A1 → A2 → Option ρ) → A1 → A2 → Option ρ} {Q : ρ → Prop} (I : Nat → A1 → A2 → Prop) (hs : ∀ self n a b, I n a b → (∀ m a' b', m < n → I m a' b' → okk (self a' b') Q) → okk (f self a b) Q) : ∀ N n a b, I n a b → n < N → okk (qv_lp2 N f a b) Q := by
  intro N
  induction N with
  | zero => intro n a b _ h; omega
  | succ N ih => intro n a b hI h; exact hs _ n a b hI (fun m a' b' h1 h2 => ih m a' b' h2 (by omega))
theorem ok_lp3 {A1 A2 A3 ρ : Type} {f : (A1 → A2 → A3 → Option ρ) → A1 → A2 → A3 → Option ρ} {Q : ρ → Prop} (I : Nat → A1 → A2 → A3 → Prop) (hs : ∀ self n a b c, I n a b c → (∀ m a' b' c', m < n → I m a' b' c' → okk (self a' b' c') Q) → okk (f self a b c) Q) : ∀ N n a b c, I n a b c → n < N → okk (qv_lp3 N f a b c) Q := by
  intro N
  induction N with
  | zero => intro n a b c _ h; omega
  | succ N ih => intro n a b c hI h; exact hs _ n a b c hI (fun m a' b' c' h1 h2 => ih m a' b' c' h2 (by omega))
theorem ok_lp4 {A1 A2 A3 A4 ρ : Type} {f : (A1 → A2 → A3 → A4 → Option ρ) → A1 → A2 → A3 → A4 → Option ρ} {Q : ρ → Prop} (I : Nat → A1 → A2 → A3 → A4 → Prop) (hs : ∀ self n a b c d, I n a b c d → (∀ m a' b' c' d', m < n → I m a' b' c' d' → okk (self a' b' c' d') Q) → okk (f self a b c d) Q) : ∀ N n a b c d, I n a b c d → n < N → okk (qv_lp4 N f a b c d) Q := by
  intro N
  induction N with
  | zero => intro n a b c d _ h; omega
  | succ N ih => intro n a b c d hI h; exact hs _ n a b c d hI (fun m a' b' c' d' h1 h2 => ih m a' b' c' d' h2 (by omega))
theorem ok_lp5 {A1 A2 A3 A4 A5 ρ : Type} {f : (A1 → A2 → A3 → A4 → A5 → Option ρ) → A1 → A2 → A3 → A4 → A5 → Option ρ} {Q : ρ → Prop} (I : Nat → A1 → A2 → A3 → A4 → A5 → Prop) (hs : ∀ self n a b c d e, I n a b c d e → (∀ m a' b' c' d' e', m < n → I m a' b' c' d' e' → okk (self a' b' c' d' e') Q) → okk (f self a b c d e) Q) : ∀ N n a b c d e, I n a b c d e → n < N → okk (qv_lp5 N f a b c d e) Q := by
  intro N
  induction N with
  | zero => intro n a b c d e _ h; omega
  | succ N ih => intro n a b c d e hI h; exact hs _ n a b c d e hI (fun m a' b' c' d' e' h1 h2 => ih m a' b' c' d' e' h2 (by omega))
theorem qj_e {α β : Type} (K : α) (b : α → β) : qv_j K b = b K := Eq.trans rfl rfl
theorem qb_e {α β : Type} (e : α) (k : α → β) : qv_b e k = k e := Eq.trans rfl rfl
theorem qN : qv_N = 5000 := rfl
/-! terms of a law: operations on a pile -/
def sop (vars : Nat → Int32) (k v : Int32) (st : List Int32) : Option (List Int32) :=
  if k = 0 then some (v :: st) else if k = 1 then some (vars v.toNatClampNeg :: st) else match st with
  | b :: a :: r => if k = 2 then some ((a + b) :: r) else if k = 3 then some ((a - b) :: r) else if k = 4 then some ((a * b) :: r) else if b = 0 then none else some ((a / b) :: r)
  | _ => none
def srun (vars : Nat → Int32) : List (Int32 × Int32) → List Int32 → Option (List Int32)
  | [], st => some st
  | o :: t, st => (sop vars o.1 o.2 st).bind (srun vars t)
def swf : List (Int32 × Int32) → Nat → Prop
  | [], d => d = 1
  | o :: t, d => (o.1 = 0 ∧ 0 ≤ o.2 ∧ d < 30 ∧ swf t (d + 1)) ∨ (o.1 = 1 ∧ (∃ k, k < 9 ∧ o.2 = nI k) ∧ d < 30 ∧ swf t (d + 1)) ∨ ((o.1 = 2 ∨ o.1 = 3 ∨ o.1 = 4 ∨ o.1 = 5) ∧ 2 ≤ d ∧ swf t (d - 1))
/-- the pile's lower cells hold the stack, its top last -/
def prep (P : Nat → Int32) : List Int32 → Prop
  | [] => True
  | x :: r => P r.length = x ∧ prep P r
theorem prep_upd {P : Nat → Int32} {x : Int32} : ∀ (r : List Int32) (n : Nat), r.length ≤ n → prep P r → prep (upd P n x) r
  | [], _, _, _ => trivial
  | y :: r, n, h, hp => by
    have h1 : r.length < n := h
    exact ⟨by rw [upd_ne (by omega)]; exact hp.1, prep_upd r n (by omega) hp.2⟩
theorem prep_push {P : Nat → Int32} {x : Int32} {r : List Int32} (hp : prep P r) : prep (upd P r.length x) (x :: r) := ⟨upd_eq, prep_upd r _ (Nat.le_refl _) hp⟩
def codeAt (A B : Nat → Int32) : Nat → List (Int32 × Int32) → Prop
  | _, [] => True
  | a, o :: t => A a = o.1 ∧ B a = o.2 ∧ codeAt A B (a + 1) t
theorem sop_0 {vars : Nat → Int32} {v : Int32} {st : List Int32} : sop vars 0 v st = some (v :: st) := rfl
theorem sop_1 {vars : Nat → Int32} {v : Int32} {st : List Int32} : sop vars 1 v st = some (vars v.toNatClampNeg :: st) := rfl
theorem sop_2 {vars : Nat → Int32} {v a b : Int32} {r : List Int32} : sop vars 2 v (b :: a :: r) = some ((a + b) :: r) := rfl
theorem sop_3 {vars : Nat → Int32} {v a b : Int32} {r : List Int32} : sop vars 3 v (b :: a :: r) = some ((a - b) :: r) := rfl
theorem sop_4 {vars : Nat → Int32} {v a b : Int32} {r : List Int32} : sop vars 4 v (b :: a :: r) = some ((a * b) :: r) := rfl
theorem sop_5 {vars : Nat → Int32} {v a b : Int32} {r : List Int32} : sop vars 5 v (b :: a :: r) = if b = 0 then none else some ((a / b) :: r) := rfl
theorem srun_c {vars : Nat → Int32} {k v : Int32} {t : List (Int32 × Int32)} {st : List Int32} : srun vars ((k, v) :: t) st = (sop vars k v st).bind (srun vars t) := rfl
theorem srun_len {vars : Nat → Int32} : ∀ (c : List (Int32 × Int32)) (st st2 : List Int32), swf c st.length → srun vars c st = some st2 → st2.length = 1
  | [], st, st2, h, h2 => by cases h2; exact h
  | o :: t, st, st2, h, h2 => by
    obtain ⟨k, v⟩ := o
    rw [srun_c] at h2
    rcases h with ⟨h3, _, _, h4⟩ | ⟨h3, _, _, h4⟩ | ⟨h3, h5, h4⟩
    · have h3 : k = 0 := h3
      subst h3
      rw [sop_0] at h2
      exact srun_len t (v :: st) st2 h4 h2
    · have h3 : k = 1 := h3
      subst h3
      rw [sop_1] at h2
      exact srun_len t (_ :: st) st2 h4 h2
    · match st, h5, h4, h2 with
      | b :: a :: r, h5, h4, h2 =>
        have h3 : k = 2 ∨ k = 3 ∨ k = 4 ∨ k = 5 := h3
        rcases h3 with rfl | rfl | rfl | rfl
        · rw [sop_2] at h2
          exact srun_len t (_ :: r) st2 h4 h2
        · rw [sop_3] at h2
          exact srun_len t (_ :: r) st2 h4 h2
        · rw [sop_4] at h2
          exact srun_len t (_ :: r) st2 h4 h2
        · rw [sop_5] at h2
          by_cases hb : b = 0
          · rw [if_pos hb] at h2; cases h2
          · rw [if_neg hb] at h2
            exact srun_len t (_ :: r) st2 h4 h2
/-! the reference's termOf -/
theorem termM {S : qv_St} {a b : Nat} {c0 : List (Int32 × Int32)} (hw : swf c0 0) (hc : codeAt (S.1 31) (S.1 32) a c0) (hb : a + c0.length = b) (hb2 : b ≤ 840) : okk (fX12_termOf S (nI a) (nI b)) (fun z => match srun (S.1 34) c0 [] with
    | some st => ∃ P, prep P st ∧ z = (qs S 35 P, P 0)
    | none => ∃ P, z = (qs (qs S 35 P) 0 (upd (S.1 0) 52 1), 0)) := by
  unfold fX12_termOf
  have hN5 := qN
  generalize qv_N = N at hN5 ⊢
  simp only [qj_e, qb_e]
  refine ok_lp3 (fun n S1 x3 x4 => ∃ c st P a, n = c.length ∧ S1 = qs S 35 P ∧ x3 = nI st.length ∧ x4 = nI a ∧ a + c.length = b ∧ codeAt (S.1 31) (S.1 32) a c ∧ swf c st.length ∧ st.length ≤ 30 ∧ prep P st ∧ srun (S.1 34) c st = srun (S.1 34) c0 []) ?_ N c0.length S 0 (nI a) ⟨c0, [], S.1 35, a, rfl, qs_id.symm, rfl, rfl, hb, hc, hw, by decide, trivial, rfl⟩ (by omega)
  rintro self n S1 x3 x4 ⟨c, st, P, a, rfl, rfl, rfl, rfl, hb, hc, hw, hd, hp, hr⟩ ih
  match c, hb, hc, hw, hr, ih with
  | [], hb, hc, hw, hr, ih =>
    have hab : a = b := hb
    refine ok_pos (by rw [hab]; exact Int32.le_refl _) ?_
    refine ok_ck 0 rfl (by omega) (by omega) (ok_s ?_)
    rw [← hr]
    exact ⟨P, hp, by rw [qs_eq]; rfl⟩
  | (k, v) :: t, hb, hc, hw, hr, ih =>
    have hb : a + (t.length + 1) = b := hb
    obtain ⟨hc1, hc2, hc3⟩ := hc
    have hc1 : S.1 31 a = k := hc1
    have hc2 : S.1 32 a = v := hc2
    have q1 : ∀ x, (qs S 35 P).1 31 x = S.1 31 x := fun x => by rw [qs_ne (by decide)]
    have q2 : ∀ x, (qs S 35 P).1 32 x = S.1 32 x := fun x => by rw [qs_ne (by decide)]
    have q4 : ∀ x, (qs S 35 P).1 34 x = S.1 34 x := fun x => by rw [qs_ne (by decide)]
    refine ok_neg (nI_ge (by omega) (by omega)) ?_
    refine ok_ck a rfl (by omega) (by omega) ?_
    rw [qi_cl (by omega : a < 2 ^ 31), q1, q2, q4, hc1, hc2]
    rcases hw with ⟨h3, _, h5, h4⟩ | ⟨h3, ⟨j, hj, hj2⟩, h5, h4⟩ | ⟨h3, h5, h4⟩
    · have h3 : k = 0 := h3
      subst h3
      refine ok_neg (by decide) (ok_pos rfl (ok_ck a rfl (by omega) (by omega) (ok_ck st.length rfl (by omega) (by omega) ?_)))
      rw [qi_cl (by omega : st.length < 2 ^ 31), nI_1, nI_1, qs_si, qs_qs, qs_eq]
      exact ih t.length _ _ _ (Nat.lt_succ_self _) ⟨t, v :: st, _, a + 1, rfl, rfl, rfl, rfl, by omega, hc3, h4, by simp only [List.length_cons]; omega, prep_push hp, by rw [← hr, srun_c, sop_0, Option.bind_some]⟩
    · have h3 : k = 1 := h3
      subst h3
      have hj2 : v = nI j := hj2
      refine ok_neg (by decide) (ok_neg (by decide) (ok_ck a rfl (by omega) (by omega) (ok_ck j hj2 hj (by omega) (ok_ck st.length rfl (by omega) (by omega) ?_))))
      rw [qi_cl (by omega : st.length < 2 ^ 31), nI_1, nI_1, qs_si, qs_qs, qs_eq]
      exact ih t.length _ _ _ (Nat.lt_succ_self _) ⟨t, S.1 34 v.toNatClampNeg :: st, _, a + 1, rfl, rfl, rfl, rfl, by omega, hc3, h4, by simp only [List.length_cons]; omega, prep_push hp, by rw [← hr, srun_c, sop_1, Option.bind_some]⟩
    · match st, h5, h4, hp, hr, hd with
      | y :: x :: r, h5, h4, hp, hr, hd =>
        have h3 : k = 2 ∨ k = 3 ∨ k = 4 ∨ k = 5 := h3
        have e1 : nI (y :: x :: r).length + (-1) = nI (r.length + 1) := pk_m1 _
        have e2 : nI (r.length + 1) - 1 = nI r.length := nI_pred _
        have hk2 : (2 : Int32) ≤ k := by rcases h3 with rfl | rfl | rfl | rfl <;> decide
        have hy : P (r.length + 1) = y := hp.1
        have hx : P r.length = x := hp.2.1
        have h4 : swf t (r.length + 1) := h4
        have hl4 : r.length + 2 ≤ 30 := hd
        refine ok_pos hk2 ?_
        rw [e1, e2, qi_cl (by omega : r.length < 2 ^ 31), qi_cl (by omega : r.length + 1 < 2 ^ 31), qs_eq, hy, hx]
        refine ok_ck r.length rfl (by omega) (by omega) (ok_ck (r.length + 1) rfl (by omega) (by omega) ?_)
        have fin : ∀ w, sop (S.1 34) k v (y :: x :: r) = some (w :: r) → okk (self (qv_si (qs S 35 P) 35 r.length w) (nI (r.length + 1)) (nI a + 1)) (fun z => match srun (S.1 34) c0 [] with
            | some st => ∃ P, prep P st ∧ z = (qs S 35 P, P 0)
            | none => ∃ P, z = (qs (qs S 35 P) 0 (upd (S.1 0) 52 1), 0)) := by
          intro w hw
          rw [nI_1, qs_si, qs_qs, qs_eq]
          refine ih t.length _ _ _ (Nat.lt_succ_self _) ⟨t, w :: r, _, a + 1, rfl, rfl, rfl, rfl, by omega, hc3, h4, by simp only [List.length_cons]; omega, prep_push hp.2.2, ?_⟩
          rw [← hr]
          rw [srun_c, hw, Option.bind_some]
        rcases h3 with rfl | rfl | rfl | rfl
        · refine ok_neg (by decide) (ok_pos rfl (ok_ck r.length rfl (by omega) (by omega) (fin _ sop_2)))
        · refine ok_neg (by decide) (ok_neg (by decide) (ok_pos rfl (ok_ck r.length rfl (by omega) (by omega) (fin _ sop_3))))
        · refine ok_neg (by decide) (ok_neg (by decide) (ok_neg (by decide) (ok_pos rfl (ok_ck r.length rfl (by omega) (by omega) (fin _ sop_4)))))
        · refine ok_pos rfl ?_
          by_cases hy0 : y = 0
          · refine ok_pos hy0 (ok_s ?_)
            rw [← hr]
            have : srun (S.1 34) ((5, v) :: t) (y :: x :: r) = none := by
              rw [srun_c, sop_5, if_pos hy0]
              rfl
            rw [this]
            exact ⟨P, by rw [qs_si, qs_ne (by decide)]⟩
          · refine ok_neg hy0 (ok_neg (by decide) (ok_neg (by decide) (ok_neg (by decide) (ok_nz hy0 (ok_ck r.length rfl (by omega) (by omega) (fin _ ?_))))))
            rw [sop_5, if_neg hy0]
