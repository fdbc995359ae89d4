/-! VC: constructors. All that is made since the object itself lies from its address B on, cell by cell in the order of making. -/
def qc_wd (B : Nat) (es : List va_E) : va_W := es.mapIdx (fun k e => (B + k, e))
def qc_A (B : Nat) : Nat → Prop := fun q => B ≤ q
def qc_ad (B : Nat) (ax : Nat → Nat) : Nat → Nat := fun q => if q < 1000 then B + q else ax q
def qc_es (ad : Nat → Nat) (cy : Nat → ClassId) (L : List qv_Lc) (S : qv_St) : List va_E := L.mapIdx (fun q c => qv_cell ad cy S q c)
/-- what a constructor needs of the tables beyond the words: links to the nest's private constructors, the class of arrays of State, the two texts -/
def qc_ro (ax : Nat → Nat) (A : Nat → Prop) (U : State) : Prop :=
  (vk_S 2 qv_len qv_byt (fun i => ax (1000 + i)) (fun i => ax (2000 + i)) A U U.heap ∧ vk_R "QuietTake$Tokens" 66 qv_s0 (ax 1000) U ∧ vk_R "QuietTake$Tokens" 77 qv_s1 (ax 1001) U ∧ va_Z "java/lang/String" "COMPACT_STRINGS" "Z" (.int 1) A U U.heap ∧ va_Z "jdk/internal/util/Preconditions" "SIOOBE_FORMATTER" "Ljava/util/function/BiFunction;" (if ax 3001 = 0 then .null else .ref (ax 3000)) A U U.heap ∧ va_Nw (.methodLinkNest "QuietTake$Reader" 108 ⟨"QuietTake", "within", "(III)Z"⟩ "QuietTake") U) ∧
  va_Nw (.methodLinkNest "QuietTake" 9 ⟨"QuietTake$Tape", "<init>", "()V"⟩ "QuietTake") U ∧ va_Nw (.methodLinkNest "QuietTake" 18 ⟨"QuietTake$Tokens", "<init>", "()V"⟩ "QuietTake") U ∧ va_Nw (.methodLinkNest "QuietTake$Script" 42 ⟨"QuietTake$Law", "<init>", "()V"⟩ "QuietTake") U ∧ va_Nw (.methodLinkNest "QuietTake" 41 ⟨"QuietTake$State", "<init>", "()V"⟩ "QuietTake") U ∧ va_Nw (.methodLinkNest "QuietTake$History" 15 ⟨"QuietTake$State", "<init>", "()V"⟩ "QuietTake") U ∧ va_AO "QuietTake$State" U
theorem qc_ro_go {ax : Nat → Nat} {A A' : Nat → Prop} {s U : State} {H : Heap} {locs : List Loc} (h : qc_ro ax A s) (hS : va_S A s.heap H locs) (hU : U.heap = H) (hW : s.WarmedH U.vm) (hA : ∀ q, A' q → A q) : qc_ro ax A' U := by
  obtain ⟨⟨h1, h2, h3, h4, h5, h6⟩, g1, g2, g3, g4, g5, g6⟩ := h
  exact ⟨⟨by rw [hU]; exact ((h1.kept hS.2.1).moved hW.alike).narrow hA, h2.warm hW, h3.warm hW, by rw [hU]; exact ((h4.kept hS.2.1).moved hW.alike).narrow hA, by rw [hU]; exact ((h5.kept hS.2.1).moved hW.alike).narrow hA, h6.warmM hW⟩, g1.warmM hW, g2.warmM hW, g3.warmM hW, g4.warmM hW, g5.warmM hW, g6.moved hW.alike⟩
theorem qc_ro_blind {ax : Nat → Nat} {A : Nat → Prop} {U : State} {g : JFrame} {mk : MethodId} {a : Array Value} (h : qc_ro ax A U) : qc_ro ax A (U.calling g mk a) := by
  obtain ⟨⟨h1, h2, h3, h4, h5, h6⟩, g1, g2, g3, g4, g5, g6⟩ := h
  exact ⟨⟨vk_S.moved (u := U) (U := U.calling g mk a) (Vm.Alike.refl U.vm) h1, vk_R.same (u := U) (U := U.calling g mk a) rfl h2, vk_R.same (u := U) (U := U.calling g mk a) rfl h3, va_Z.moved (u := U) (U := U.calling g mk a) (Vm.Alike.refl U.vm) h4, va_Z.moved (u := U) (U := U.calling g mk a) (Vm.Alike.refl U.vm) h5, va_Nw.same rfl (u := U) (U := U.calling g mk a) rfl h6⟩, va_Nw.same rfl (u := U) (U := U.calling g mk a) rfl g1, va_Nw.same rfl (u := U) (U := U.calling g mk a) rfl g2, va_Nw.same rfl (u := U) (U := U.calling g mk a) rfl g3, va_Nw.same rfl (u := U) (U := U.calling g mk a) rfl g4, va_Nw.same rfl (u := U) (U := U.calling g mk a) rfl g5, va_AO.moved (u := U) (U := U.calling g mk a) (Vm.Alike.refl U.vm) g6⟩
theorem qc_at {B k : Nat} {es : List va_E} {e : va_E} (h : es[k]? = some e) : (qc_wd B es)[k]? = some (B + k, e) := by simp [qc_wd, h]
theorem qc_at_inv {B k : Nat} {es : List va_E} {z : Nat × va_E} (h : (qc_wd B es)[k]? = some z) : k < es.length ∧ z.1 = B + k ∧ es[k]? = some z.2 := by
  rw [qc_wd, List.getElem?_mapIdx] at h
  cases hq : es[k]? with
  | none => rw [hq] at h; cases h
  | some c =>
    rw [hq] at h
    cases h
    exact ⟨(List.getElem?_eq_some_iff.mp hq).1, rfl, rfl⟩
theorem qc_D {B : Nat} {es : List va_E} : va_D (qc_A B) (qc_wd B es) := by
  refine ⟨fun i j p q hi hj e => ?_, fun k q hk => ?_⟩
  · have h1 := (qc_at_inv hi).2.1
    have h2 := (qc_at_inv hj).2.1
    omega
  · have h1 := (qc_at_inv hk).2.1
    show B ≤ q.1
    omega
theorem qc_set {B k : Nat} {es : List va_E} {e : va_E} : (qc_wd B es).set k (B + k, e) = qc_wd B (es.set k e) := by
  apply List.ext_getElem?
  intro i
  by_cases hi : i = k
  · subst hi
    by_cases hl : i < es.length
    · rw [List.getElem?_set_self (by simp [qc_wd]; exact hl)]
      rw [qc_wd, List.getElem?_mapIdx, List.getElem?_set_self hl]
      rfl
    · simp [qc_wd, hl]
  · rw [List.getElem?_set_ne (Ne.symm hi)]
    simp [qc_wd, List.getElem?_set_ne (Ne.symm hi)]
theorem qc_push {D : va_G} {B : Nat} {es : List va_E} {e : va_E} {H H1 : Heap} (hP : va_P D vwCl (qc_wd B es) H) (hz : H.size = B + es.length) (ho : ∀ q, q < H.size → H1[q]? = H[q]?) (he : va_at D vwCl (H.size, e) H1) : va_P D vwCl (qc_wd B (es ++ [e])) H1 := by
  intro k z hk
  obtain ⟨h1, h2, h3⟩ := qc_at_inv hk
  obtain ⟨a, e1⟩ := z
  dsimp only at h2 h3
  subst h2
  by_cases hl : k < es.length
  · rw [List.getElem?_append_left hl] at h3
    exact (hP k _ (qc_at h3)).kept (ho _ (by dsimp only; omega))
  · rw [List.getElem?_append_right (by omega)] at h3
    rw [List.length_append, List.length_singleton] at h1
    rw [show k - es.length = 0 by omega] at h3
    cases h3
    rw [show B + k = H.size by omega]
    exact he
theorem qc_wd_es {B : Nat} {ax : Nat → Nat} {cy : Nat → ClassId} {L : List qv_Lc} {S : qv_St} (hL : L.length ≤ 1000) : qc_wd B (qc_es (qc_ad B ax) cy L S) = qv_wd (qc_ad B ax) cy L S := by
  apply List.ext_getElem?
  intro i
  simp only [qc_wd, qc_es, qv_wd, List.getElem?_mapIdx]
  cases h : L[i]? with
  | none => rfl
  | some c =>
    have hi := (List.getElem?_eq_some_iff.mp h).1
    simp [qc_ad, show i < 1000 by omega]
def qc_ok (D : va_G) (cy ax : Nat → Nat) (B : Nat) (X : qv_XT) (own : String) (cc : ByteArray) (nL : Nat) : Prop :=
  (X.1.tables.exec = Jvm.exec ∧ X.2.2.2.2.2.2.2.code = cc ∧ X.2.2.2.2.2.2.2.maxLocals = nL ∧ X.2.2.1.vm.findClass own = some X.2.2.2.1.cls ∧ ∀ w ∈ gw_tbl, w.before X.2.2.2.2.1 X.2.2.1 = true) ∧ X.2.2.2.2.2.2.1.sig.returnType = none ∧ X.2.2.2.2.2.2.1.locks = false ∧ va_K D vwCl (qv_tys cy) X.2.2.1 ∧ X.2.2.2.2.2.2.1.name = "<init>" ∧ qc_ro ax (qc_A B) X.2.2.1
def VC (l : Launch) (D : va_G) (cy ax : Nat → Nat) (B : Nat) (X : qv_XT) (own : String) (cc : ByteArray) (nL lev cN sN : Nat) (pc : Nat) (lv : List (Nat × Value)) (st : List Value) (es : List va_E) (c0 s0 : Nat) (Q : State → Prop) : Prop :=
  qc_ok D cy ax B X own cc nL → ∀ (H : Heap) (locs : List Loc) (ls : Array Slot), va_P D vwCl (qc_wd B es) H → H.size = B + es.length → X.2.2.1.heap.size + c0 = B + es.length → va_S (qc_A B) X.2.2.1.heap H locs → lv_has ls nL lv → W X.1 l X.2.1 (qv_roomx cN sN lev) X.2.2.1 X.2.2.2.1 X.2.2.2.2.1 X.2.2.2.2.2.1 X.2.2.2.2.2.2.1 X.2.2.2.2.2.2.2 H locs c0 s0 Q (F0 X.2.2.2.1 pc ls st)
def qc_Q (D : va_G) (B : Nat) (d' : List va_E) : Array Value → State → Outcome → State → Prop := fun _ st oc t => oc = .returned none ∧ t.heap.size = B + d'.length ∧ va_P D vwCl (qc_wd B d') t.heap ∧ va_F (qc_A B) st t
def qc_Pc (D : va_G) (cy ax : Nat → Nat) (B : Nat) (d : List va_E) (av : List Value) : Array Value → State → Prop := va_Pc av (fun U => U.heap.size = B + d.length ∧ va_P D vwCl (qc_wd B d) U.heap ∧ va_K D vwCl (qv_tys cy) U ∧ qc_ro ax (qc_A B) U)
def Kc (l : Launch) (D : va_G) (cy ax : Nat → Nat) (y : MethodName) (b : ByteArray) (maxL lev cN sN : Nat) (av : List Value) (B : Nat) (d d' : List va_E) : Prop := Met l y (qv_ws y b maxL none) (qv_roomx cN sN lev) (qc_Pc D cy ax B d av) (qc_Q D B d') cN sN (qc_A B)
theorem kc_of {l : Launch} {D : va_G} {cy ax : Nat → Nat} {y : MethodName} {b : ByteArray} {maxL lev cN sN : Nat} {av : List Value} {B : Nat} {d d' : List va_E} {lv : List (Nat × Value)} {own : String} (ho : y.cls = own) (hi : y.name = "<init>") (hy : plainName y.cls = true) (hlen : (lg_sl av).length ≤ maxL) (hlv : lv_args 0 av = lv) (hd : d.length = 1)
    (vc : ∀ X : qv_XT, X.2.2.1.heap.size = B + 1 → VC l D cy ax B X own b maxL lev cN sN 0 lv [] d 0 0 (MQ X.2.2.2.2.2.1 (qc_Q D B d') X.2.2.2.2.1 X.2.2.1 cN sN (qc_A B))) : Kc l D cy ax y b maxL lev cN sN av B d d' := by
  subst hlv
  subst ho
  refine Met.ofW (cc := b) (maxL := maxL) (ret := none) hy rfl ?_
  intro p e s m args below meth c s₁ Bd hml hv
  obtain ⟨rfl, hsz, hP, hK, hro⟩ := hv
  have hts := atoms_spec (ws := qv_ws y b maxL none) Bd.pre
  have hown : s.vm.findClass y.cls = some m.cls := findClass_of_methodNamed Bd.named
  have hl := lv_entry av hlen
  rw [lg_entry_eq]
  exact vc (p, e, s, m, av.toArray, below, meth, c) (by rw [hsz, hd]) ⟨⟨Bd.exec, Bd.bytes, hml, hown, fun w h => hts w (List.mem_cons_of_mem _ h)⟩, Bd.returns, Bd.notSynchronized, hK, (name_of_methodNamed Bd.named Bd.method).1.trans hi, hro⟩ s.heap [] _ hP hsz hsz va_S.rf hl
theorem qc_sz {p : Program} {l : Launch} {e : Env} {R : Room} {s : State} {m : MethodId} {args : Array Value} {below : List Frame} {meth : Method} {c : Code} {H : Heap} {locs : List Loc} {c0 s0 : Nat} {Q : State → Prop} {g : JFrame} {D : va_G} {B i : Nat} {es : List va_E} (hP : va_P D vwCl (qc_wd B es) H) (hi : i < es.length) (hc : s.heap.size + c0 = B + es.length) (k : H.size = B + es.length → W p l e R s m args below meth c H locs c0 s0 Q g) : W p l e R s m args below meth c H locs c0 s0 Q g := by
  intro T hT X
  refine k ?_ T hT X
  have h1 : T.heap.size ≤ s.heap.size + c0 := X.same.2.2.1
  have h2 : (qc_wd B es)[es.length - 1]? = some (B + (es.length - 1), es[es.length - 1]) := qc_at (List.getElem?_eq_getElem (by omega))
  have h3 := (hP _ _ h2).lt
  dsimp only at h3
  rw [hT] at h1
  omega
theorem qc_locs {p : Program} {l : Launch} {e : Env} {R : Room} {s : State} {m : MethodId} {args : Array Value} {below : List Frame} {meth : Method} {c : Code} {H : Heap} {locs locs2 : List Loc} {c0 s0 : Nat} {Q : State → Prop} {g : JFrame} (h : ∀ q ∈ locs, q.base < s.heap.size → q ∈ locs2) (k : W p l e R s m args below meth c H locs2 c0 s0 Q g) : W p l e R s m args below meth c H locs c0 s0 Q g := by
  intro T hT X
  refine k T hT { X with same := ?_ }
  obtain ⟨h1, h2, h3, h4, h5, h6⟩ := X.same
  refine ⟨h1, h2, h3, h4, h5, fun a c ha => ?_⟩
  obtain ⟨c', g1, g2, g3, g4⟩ := h6 a c ha
  exact ⟨c', g1, g2, g3, fun i hi => g4 i (fun z => hi (h _ z (Array.getElem?_eq_some_iff.mp ha).1))⟩
theorem qc_mono {p : Program} {l : Launch} {e : Env} {R : Room} {s : State} {m : MethodId} {args : Array Value} {below : List Frame} {meth : Method} {c : Code} {H : Heap} {locs : List Loc} {c0 s0 : Nat} {Q Q2 : State → Prop} {g : JFrame} (h : ∀ t, Q2 t → Q t) (k : W p l e R s m args below meth c H locs c0 s0 Q2 g) : W p l e R s m args below meth c H locs c0 s0 Q g := by
  intro T hT X
  obtain ⟨t, a, b⟩ := k T hT X
  exact ⟨t, a, h t b⟩
theorem qc_shift {D : va_G} {B B2 : Nat} {w d : List va_E} {H : Heap} (hB : B + w.length = B2) (hP : va_P D vwCl (qc_wd B (w ++ d)) H) : va_P D vwCl (qc_wd B2 d) H := by
  intro k z hk
  obtain ⟨h1, h2, h3⟩ := qc_at_inv hk
  obtain ⟨a, e1⟩ := z
  dsimp only at h2 h3
  subst h2
  have h4 : (w ++ d)[w.length + k]? = some e1 := by rw [List.getElem?_append_right (by omega), show w.length + k - w.length = k by omega]; exact h3
  have h5 := hP _ _ (qc_at (B := B) h4)
  rw [show B + (w.length + k) = B2 + k by omega] at h5
  exact h5
theorem qc_join {D : va_G} {B B2 : Nat} {w d d2 : List va_E} {H H1 : Heap} (hB : B + w.length = B2) (hP : va_P D vwCl (qc_wd B (w ++ d)) H) (hk : ∀ q, q < B2 → H1[q]? = H[q]?) (hP1 : va_P D vwCl (qc_wd B2 d2) H1) : va_P D vwCl (qc_wd B (w ++ d2)) H1 := by
  intro k z hk2
  obtain ⟨h1, h2, h3⟩ := qc_at_inv hk2
  obtain ⟨a, e1⟩ := z
  dsimp only at h2 h3
  subst h2
  by_cases hl : k < w.length
  · rw [List.getElem?_append_left hl] at h3
    have h4 : (w ++ d)[k]? = some e1 := by rw [List.getElem?_append_left hl]; exact h3
    exact (hP _ _ (qc_at h4)).kept (hk _ (by dsimp only; omega))
  · rw [List.getElem?_append_right (by omega)] at h3
    have h5 := hP1 _ _ (qc_at (B := B2) h3)
    rw [show B2 + (k - w.length) = B + k by omega] at h5
    exact h5
section QCR
variable {l : Launch} {D : va_G} {cy ax : Nat → Nat} {B : Nat} {X : qv_XT} {own : String} {cc : ByteArray} {nL lev cN sN : Nat} {pc : Nat} {lv : List (Nat × Value)} {st : List Value} {es : List va_E} {c0 s0 : Nat} {Q : State → Prop}
theorem qc_obj {idx n a : Nat} (hd : decode cc pc = .ok (.invokespecial idx, 3)) (hn : pc + 3 = n) (hw : Cond.methodLink own idx Lib.objectInit ∈ gw_tbl) (hw2 : Cond.instanceMethod Lib.objectInit ∈ gw_tbl) (hw3 : Cond.code Lib.objectInit ⟨#[0xb1]⟩ 1 none ∈ gw_tbl) (hlev : Nat.ble 1 lev = true) (hsum : (st.map fun v => v.category).sum ≤ 8) (k : VC l D cy ax B X own cc nL lev cN sN n lv st es c0 s0 Q) : VC l D cy ax B X own cc nL lev cN sN pc lv (.ref a :: st) es c0 s0 Q := by
  subst hn
  intro ok H locs ls hP hz hc hS hl
  obtain ⟨hx, hb, hml, hown, hts⟩ := ok.1
  have h1 := Nat.le_of_ble_eq_true hlev
  refine W.objInit hx hb hown (hts _ hw) (hts _ hw2) (hts _ hw3) rfl (by rw [hml]; exact hl.1) rfl hd h1 ?_ (k ok H locs ls hP hz hc hS hl)
  have h2 := lv_room (m := X.2.2.2.1) (pc := pc) (ls := ls) (rest := .ref a :: st) hsum
  simp only [qv_roomx]
  omega
theorem qc_aload_n {q : Fin 4} {x n : Nat} (j : Nat) (hd : decode cc pc = .ok (.aload_n q, 1)) (hn : pc + 1 = n) (hj : lv[j]? = some ((q : Nat), .ref x)) (k : VC l D cy ax B X own cc nL lev cN sN n lv (.ref x :: st) es c0 s0 Q) : VC l D cy ax B X own cc nL lev cN sN pc lv st es c0 s0 Q := by
  subst hn
  intro ok H locs ls hP hz hc hS hl
  exact lv_aload_n ok.1.1 ok.1.2.1 hd rfl (lv_at hl j hj) (k ok H locs ls hP hz hc hS hl)
theorem qc_iload_n {q : Fin 4} {x : Int32} {n : Nat} (j : Nat) (hd : decode cc pc = .ok (.iload_n q, 1)) (hn : pc + 1 = n) (hj : lv[j]? = some ((q : Nat), .int x)) (k : VC l D cy ax B X own cc nL lev cN sN n lv (.int x :: st) es c0 s0 Q) : VC l D cy ax B X own cc nL lev cN sN pc lv st es c0 s0 Q := by
  subst hn
  intro ok H locs ls hP hz hc hS hl
  exact lv_iload_n ok.1.1 ok.1.2.1 hd rfl (lv_at hl j hj) (k ok H locs ls hP hz hc hS hl)
theorem qc_iconst {a : Int} (v : Int32) {n : Nat} (hd : decode cc pc = .ok (.iconst a, 1)) (hn : pc + 1 = n) (hv : Int32.ofInt a = v) (k : VC l D cy ax B X own cc nL lev cN sN n lv (.int v :: st) es c0 s0 Q) : VC l D cy ax B X own cc nL lev cN sN pc lv st es c0 s0 Q := by
  subst hn
  intro ok H locs ls hP hz hc hS hl
  exact lv_iconst ok.1.1 ok.1.2.1 hd hv (k ok H locs ls hP hz hc hS hl)
theorem qc_bipush {a : Int} (v : Int32) {n : Nat} (hd : decode cc pc = .ok (.bipush a, 2)) (hn : pc + 2 = n) (hv : (Int8.ofInt a).toInt32 = v) (k : VC l D cy ax B X own cc nL lev cN sN n lv (.int v :: st) es c0 s0 Q) : VC l D cy ax B X own cc nL lev cN sN pc lv st es c0 s0 Q := by
  subst hn
  intro ok H locs ls hP hz hc hS hl
  exact lv_bipush ok.1.1 ok.1.2.1 hd hv (k ok H locs ls hP hz hc hS hl)
theorem qc_sipush {a : Int} (v : Int32) {n : Nat} (hd : decode cc pc = .ok (.sipush a, 3)) (hn : pc + 3 = n) (hv : (Int16.ofInt a).toInt32 = v) (k : VC l D cy ax B X own cc nL lev cN sN n lv (.int v :: st) es c0 s0 Q) : VC l D cy ax B X own cc nL lev cN sN pc lv st es c0 s0 Q := by
  subst hn
  intro ok H locs ls hP hz hc hS hl
  exact lv_sipush ok.1.1 ok.1.2.1 hd hv (k ok H locs ls hP hz hc hS hl)
theorem qc_dup {va : Value} {n : Nat} (hd : decode cc pc = .ok (.dup, 1)) (hn : pc + 1 = n) (hv : va.category = 1) (k : VC l D cy ax B X own cc nL lev cN sN n lv (va :: va :: st) es c0 s0 Q) : VC l D cy ax B X own cc nL lev cN sN pc lv (va :: st) es c0 s0 Q := by
  subst hn
  intro ok H locs ls hP hz hc hS hl
  exact lv_dup ok.1.1 ok.1.2.1 hd hv (k ok H locs ls hP hz hc hS hl)
theorem qc_istore_n {f : Fin 4} {i : Nat} {x : Int32} {n : Nat} {lv2 : List (Nat × Value)} (ks : List Nat) (hd : decode cc pc = .ok (.istore_n f, 1)) (hn : pc + 1 = n) (hf : (f : Nat) = i) (hi : i < nL) (hs : lv_pick ((i, Value.int x) :: lv.filter (fun q => !(q.1 == i) && !(q.1 + 1 == i && q.2.category == 2))) ks = lv2) (k : VC l D cy ax B X own cc nL lev cN sN n lv2 st es c0 s0 Q) : VC l D cy ax B X own cc nL lev cN sN pc lv (.int x :: st) es c0 s0 Q := by
  subst hn
  intro ok H locs ls hP hz hc hS hl
  exact lv_istore_n ok.1.1 ok.1.2.1 hd hf hl hi rfl (fun ls2 hl2 => k ok H locs ls2 hP hz hc hS (lv_sub hl2 ks hs))
theorem qc_iinc {i : Nat} {a : Int} {x v : Int32} {n : Nat} {lv2 : List (Nat × Value)} (j : Nat) (ks : List Nat) (hd : decode cc pc = .ok (.iinc i a, 3)) (hn : pc + 3 = n) (hj : lv[j]? = some (i, .int x)) (hv : x + Int32.ofInt a = v) (hi : i < nL) (hs : lv_pick ((i, Value.int v) :: lv.filter (fun q => !(q.1 == i) && !(q.1 + 1 == i && q.2.category == 2))) ks = lv2) (k : VC l D cy ax B X own cc nL lev cN sN n lv2 st es c0 s0 Q) : VC l D cy ax B X own cc nL lev cN sN pc lv st es c0 s0 Q := by
  subst hn
  intro ok H locs ls hP hz hc hS hl
  exact lv_iinc ok.1.1 ok.1.2.1 hd hl hj hv hi rfl (fun ls2 hl2 => k ok H locs ls2 hP hz hc hS (lv_sub hl2 ks hs))
theorem qc_goto {off : Int} {n : Nat} (hd : decode cc pc = .ok (.goto off, 3)) (hn : (pc : Int) + off = (n : Int)) (k : VC l D cy ax B X own cc nL lev cN sN n lv st es c0 s0 Q) : VC l D cy ax B X own cc nL lev cN sN pc lv st es c0 s0 Q := by
  intro ok H locs ls hP hz hc hS hl
  exact lv_goto ok.1.1 ok.1.2.1 hd hn (k ok H locs ls hP hz hc hS hl)
theorem qc_icmp_ge {x y : Int32} {off : Int} {t n : Nat} (hd : decode cc pc = .ok (.if_icmp .ge off, 3)) (ht : (pc : Int) + off = (t : Int)) (hn : pc + 3 = n) (kt : y ≤ x → VC l D cy ax B X own cc nL lev cN sN t lv st es c0 s0 Q) (kf : ¬ y ≤ x → VC l D cy ax B X own cc nL lev cN sN n lv st es c0 s0 Q) : VC l D cy ax B X own cc nL lev cN sN pc lv (.int y :: .int x :: st) es c0 s0 Q := by
  subst hn
  intro ok H locs ls hP hz hc hS hl
  exact lv_icmp_ge ok.1.1 ok.1.2.1 hd ht (fun h => kt h ok H locs ls hP hz hc hS hl) (fun h => kf h ok H locs ls hP hz hc hS hl)
theorem qc_new {idx ci N n r : Nat} {C : String} {T : u_T} (ty : Nat → FieldType) (fs : List Value) (hd : decode cc pc = .ok (.new idx, 3)) (hn : pc + 3 = n) (hcl : vwCl[ci]? = some (C, T, N)) (hin : ∀ w ∈ u_ws C T N, w ∈ gw_tbl) (hty : ∀ k, k < N → parseFieldDescriptor (T k).2.2.1 = some (ty k)) (hfs : ∀ j, j < N → defaultValue (ty j) = vp_V fs j) (hw1 : Cond.classLink own idx C ∈ gw_tbl) (hw2 : Cond.instantiable C N ∈ gw_tbl) (hw3 : Cond.initialized C ∈ gw_tbl) (hc1 : Nat.ble (c0 + 1) cN = true) (hs1 : Nat.ble (s0 + N) sN = true) (hr : es.length = r) (k : VC l D cy ax B X own cc nL lev cN sN n lv (.ref (B + r) :: st) (es ++ [.inr (ci, fs)]) (c0 + 1) (s0 + N) Q) : VC l D cy ax B X own cc nL lev cN sN pc lv st es c0 s0 Q := by
  subst hn
  subst hr
  intro ok H locs ls hP hz hc hS hl
  obtain ⟨hx, hb, hml, hown, hts⟩ := ok.1
  have hKn := ok.2.2.2.1.1 ci _ hcl
  refine W.newcK hx hb hown (hts _ hw1) (hts _ hw2) (hts _ hw3) rfl hd (Nat.le_of_ble_eq_true hc1) (Nat.le_of_ble_eq_true hs1) hKn.2.1 hz fun H1 kC hkC e1 z1 o1 => ?_
  refine k ok H1 locs ls (qc_push hP hz (by rw [hz]; exact o1) ?_) (by rw [z1, List.length_append]; rfl) (by rw [List.length_append, List.length_singleton]; omega) ⟨by have := hS.1; omega, fun q h1 h2 => (o1 q (by have := hS.1; omega)).trans (hS.2.1 q h1 h2), hS.2.2⟩ hl
  rw [hz]
  exact ⟨_, hcl, (u_born ty hts hin hKn hkC e1 hty).to hfs⟩
theorem qc_arr (t : Nat) {ty : FieldType} {atype : ArrayType} {v : Int32} {N n r : Nat} (a0 : vp_A) (hd : decode cc pc = .ok (.newarray atype, 2)) (hn : pc + 2 = n) (hat : newarray.typeOf atype = ty) (hw : Cond.arrayClass ty ∈ gw_tbl) (htt : (qv_tys cy)[t]? = some (cy t, ty)) (hra : ∀ U : State, va_RA U (cy t) ty → U.vm.findClass ("[" ++ ty.toString) = some (cy t)) (ha : ∀ cA : ClassId, vp_cell cA a0 = arrV cA N (fun _ => defaultValue ty)) (hv0 : ¬ v < 0) (hvN : v.toNatClampNeg = N) (hby : N * componentBytes ty ≤ 536870912) (hc1 : Nat.ble (c0 + 1) cN = true) (hs1 : Nat.ble (s0 + N) sN = true) (hr : es.length = r) (k : VC l D cy ax B X own cc nL lev cN sN n lv (.ref (B + r) :: st) (es ++ [.inl (cy t, a0)]) (c0 + 1) (s0 + N) Q) : VC l D cy ax B X own cc nL lev cN sN pc lv (.int v :: st) es c0 s0 Q := by
  subst hn
  subst hr
  subst hat
  intro ok H locs ls hP hz hc hS hl
  obtain ⟨hx, hb, hml, hown, hts⟩ := ok.1
  refine va_newaK hx hb (hts _ hw) rfl hd rfl hv0 hvN hby (Nat.le_of_ble_eq_true hc1) (Nat.le_of_ble_eq_true hs1) hz fun H1 cA e1 z1 o1 hAr hNm => ?_
  have hcA : cA = cy t := Option.some.inj (hNm.symm.trans (hra _ (ok.2.2.2.1.2 t _ htt).2))
  subst hcA
  refine k ok H1 locs ls (qc_push hP hz (by rw [hz]; exact o1) ?_) (by rw [z1, List.length_append]; rfl) (by rw [List.length_append, List.length_singleton]; omega) ⟨by have := hS.1; omega, fun q h1 h2 => (o1 q (by have := hS.1; omega)).trans (hS.2.1 q h1 h2), hS.2.2⟩ hl
  show H1[H.size]? = some (vp_cell _ _)
  rw [ha, hz]
  exact e1
theorem qc_arrq {idx : Nat} {v : Int32} {N n r : Nat} (hd : decode cc pc = .ok (.anewarray idx, 3)) (hn : pc + 3 = n) (hw : Cond.classLink own idx "QuietTake$State" ∈ gw_tbl) (hv0 : ¬ v < 0) (hvN : v.toNatClampNeg = N) (hby : N * 4 ≤ 536870912) (hc1 : Nat.ble (c0 + 1) cN = true) (hs1 : Nat.ble (s0 + N) sN = true) (hr : es.length = r) (k : VC l D cy ax B X own cc nL lev cN sN n lv (.ref (B + r) :: st) (es ++ [.inl (cy 4, N, .inr (.inr (.inr (.inr (fun _ => none)))))]) (c0 + 1) (s0 + N) Q) : VC l D cy ax B X own cc nL lev cN sN pc lv (.int v :: st) es c0 s0 Q := by
  subst hn
  subst hr
  subst hvN
  intro ok H locs ls hP hz hc hS hl
  obtain ⟨hx, hb, hml, hown, hts⟩ := ok.1
  refine W.anew hx hb hown (hts _ hw) (va_AO.use ok.2.2.2.2.2.2.2.2.2.2.2) rfl hd rfl hv0 hby (Nat.le_of_ble_eq_true hc1) (Nat.le_of_ble_eq_true hs1) fun cA kA comp f1 f2 f3 f4 => ?_
  generalize hH1 : H.push ({ cls := cA, slots := Array.replicate v.toNatClampNeg .null, vm := .none } : Cell) = H1
  have z1 : H1.size = H.size + 1 := by rw [← hH1, Array.size_push]
  have e1 : H1[H.size]? = some (arrV cA v.toNatClampNeg (fun _ => .null)) := by rw [← hH1, Array.getElem?_push_size, ← arrV_new]
  have o1 : ∀ q : Nat, q < H.size → H1[q]? = H[q]? := fun q hq => by rw [← hH1, Array.getElem?_push, if_neg (Nat.ne_of_lt hq)]
  obtain ⟨kA2, comp2, r1, r2, r3, r4⟩ := (ok.2.2.2.1.2 4 _ rfl).2
  have hcA : cA = cy 4 := by
    have := f1.symm.trans r4
    exact Option.some.inj this
  subst hcA
  rw [hz]
  refine k ok H1 locs ls (qc_push hP hz o1 ?_) (by rw [z1, List.length_append, hz]; rfl) (by rw [List.length_append, List.length_singleton]; omega) ⟨by have := hS.1; omega, fun q h1 h2 => (o1 q (by have := hS.1; omega)).trans (hS.2.1 q h1 h2), hS.2.2⟩ hl
  show H1[H.size]? = some (vp_cell _ _)
  rw [e1]
  rfl
theorem qc_put (i j : Nat) {ci : Nat} {T : u_T} {N idx : Nat} {C : String} {ty0 : Nat → FieldType} {v : Value} {n : Nat} {fs : List Value} {es2 : List va_E} (hd : decode cc pc = .ok (.putfield idx, 3)) (hn : pc + 3 = n) (hq : es[i]? = some (.inr (ci, fs))) (hc : vwCl[ci]? = some (C, T, N)) (hin : ∀ w ∈ u_ws C T N, w ∈ gw_tbl) (hk : j < N) (hw : Cond.fieldLink own idx (T j).1 (T j).2.1 (T j).2.2.1 ∈ gw_tbl) (hl1 : j < fs.length) (hty : ∀ k, k < N → parseFieldDescriptor (T k).2.2.1 = some (ty0 k)) (hnm : ∀ a, a < N → ∀ b, b < N → a ≠ b → (T a).2.1 ≠ (T b).2.1) (hfin : (T j).2.2.2 = false) (hi1 : narrow (ty0 j) v = v) (hi2 : fits (ty0 j) v = true) (hes : es.set i (.inr (ci, fs.set j v)) = es2) (k : VC l D cy ax B X own cc nL lev cN sN n lv st es2 c0 s0 Q) : VC l D cy ax B X own cc nL lev cN sN pc lv (v :: .ref (B + i) :: st) es c0 s0 Q := by
  subst hn
  subst hes
  intro ok H locs ls hP hz hcz hS hl
  obtain ⟨hx, hb, hml, hown, hts⟩ := ok.1
  refine va_put hx hb hts hin ty0 hty hnm hown ok.2.2.2.1 hP qc_D hS i (qc_at hq) hc j hk (hts _ hw) (fun _ h => h) hfin (ty := ty0 j) (v := v) (hty j hk) hi1 hi2 hl1 hd (fun H1 locs1 hP1 hD1 hS1 => ?_)
  rw [qc_set] at hP1
  refine qc_sz hP1 (i := i) (by rw [List.length_set]; exact (List.getElem?_eq_some_iff.mp hq).1) (by rw [List.length_set]; exact hcz) (fun hz1 => ?_)
  exact k ok H1 locs1 ls hP1 hz1 (by rw [List.length_set]; exact hcz) hS1 hl
theorem qc_putF (i j : Nat) {ci : Nat} {T : u_T} {N idx : Nat} {C : String} {ty0 : Nat → FieldType} {v : Value} {n : Nat} {fs : List Value} {es2 : List va_E} (hd : decode cc pc = .ok (.putfield idx, 3)) (hn : pc + 3 = n) (hq : es[i]? = some (.inr (ci, fs))) (hc : vwCl[ci]? = some (C, T, N)) (hin : ∀ w ∈ u_ws C T N, w ∈ gw_tbl) (hk : j < N) (hw : Cond.fieldLink own idx (T j).1 (T j).2.1 (T j).2.2.1 ∈ gw_tbl) (hl1 : j < fs.length) (hty : ∀ k, k < N → parseFieldDescriptor (T k).2.2.1 = some (ty0 k)) (hnm : ∀ a, a < N → ∀ b, b < N → a ≠ b → (T a).2.1 ≠ (T b).2.1) (hfin : (T j).2.2.2 = true) (hdc : (T j).1 = own) (hi1 : narrow (ty0 j) v = v) (hi2 : fits (ty0 j) v = true) (hes : es.set i (.inr (ci, fs.set j v)) = es2) (k : VC l D cy ax B X own cc nL lev cN sN n lv st es2 c0 s0 Q) : VC l D cy ax B X own cc nL lev cN sN pc lv (v :: .ref (B + i) :: st) es c0 s0 Q := by
  subst hn
  subst hes
  intro ok H locs ls hP hz hcz hS hl
  obtain ⟨hx, hb, hml, hown, hts⟩ := ok.1
  refine va_putF hx hb hts hin ty0 hty hnm hown ok.2.2.2.1 hP qc_D hS i (qc_at hq) hc j hk (hts _ hw) (fun _ h => h) hfin ok.2.2.2.2.1 hdc (ty := ty0 j) (v := v) (hty j hk) hi1 hi2 hl1 hd (fun H1 locs1 hP1 hD1 hS1 => ?_)
  rw [qc_set] at hP1
  refine qc_sz hP1 (i := i) (by rw [List.length_set]; exact (List.getElem?_eq_some_iff.mp hq).1) (by rw [List.length_set]; exact hcz) (fun hz1 => ?_)
  exact k ok H1 locs1 ls hP1 hz1 (by rw [List.length_set]; exact hcz) hS1 hl
theorem qc_get (i j : Nat) (v : Value) {ci : Nat} {T : u_T} {N idx : Nat} {C : String} {n : Nat} {fs : List Value} (hd : decode cc pc = .ok (.getfield idx, 3)) (hn : pc + 3 = n) (hq : es[i]? = some (.inr (ci, fs))) (hc : vwCl[ci]? = some (C, T, N)) (hin : ∀ w ∈ u_ws C T N, w ∈ gw_tbl) (hk : j < N) (hw : Cond.fieldLink own idx (T j).1 (T j).2.1 (T j).2.2.1 ∈ gw_tbl) (hv : fs[j]? = some v) (k : VC l D cy ax B X own cc nL lev cN sN n lv (v :: st) es c0 s0 Q) : VC l D cy ax B X own cc nL lev cN sN pc lv (.ref (B + i) :: st) es c0 s0 Q := by
  subst hn
  intro ok H locs ls hP hz hcz hS hl
  obtain ⟨hx, hb, hml, hown, hts⟩ := ok.1
  exact va_get hx hb hts hin hown ok.2.2.2.1 hP i (qc_at hq) hc j hk (hts _ hw) (fun _ h => h) hv hd (k ok H locs ls hP hz hcz hS hl)
theorem qc_aast (i j : Nat) {N : Nat} {f : Nat → Option Nat} {ci : Nat} {vs : List Value} {T : u_T} {M : Nat} {x : Int32} {n : Nat} {es2 : List va_E} (hd : decode cc pc = .ok (.aastore, 1)) (hn : pc + 1 = n) (hq : es[i]? = some (.inl (cy 4, N, .inr (.inr (.inr (.inr f)))))) (hv : es[j]? = some (.inr (ci, vs))) (hc : vwCl[ci]? = some ("QuietTake$State", T, M)) (hx0 : vp_in x N) (hes : es.set i (.inl (cy 4, N, .inr (.inr (.inr (.inr (va_up f x.toNatClampNeg (some (B + j)))))))) = es2) (k : VC l D cy ax B X own cc nL lev cN sN n lv st es2 c0 s0 Q) : VC l D cy ax B X own cc nL lev cN sN pc lv (.ref (B + j) :: .int x :: .ref (B + i) :: st) es c0 s0 Q := by
  subst hn
  subst hes
  intro ok H locs ls hP hz hcz hS hl
  obtain ⟨hx, hb, hml, hown, hts⟩ := ok.1
  refine va_astq hx hb ok.2.2.2.1 hP qc_D hS i 4 j ci (qc_at hq) rfl (qc_at hv) hc hx0 hd (fun H1 locs1 hP1 hD1 hS1 => ?_)
  rw [qc_set] at hP1
  refine qc_sz hP1 (i := i) (by rw [List.length_set]; exact (List.getElem?_eq_some_iff.mp hq).1) (by rw [List.length_set]; exact hcz) (fun hz1 => ?_)
  exact k ok H1 locs1 ls hP1 hz1 (by rw [List.length_set]; exact hcz) hS1 hl
theorem qc_ret (hd : decode cc pc = .ok (.return_, 1)) (hc1 : Nat.ble c0 cN = true) (hs1 : Nat.ble s0 sN = true) : VC l D cy ax B X own cc nL lev cN sN pc lv [] es c0 s0 (MQ X.2.2.2.2.2.1 (qc_Q D B es) X.2.2.2.2.1 X.2.2.1 cN sN (qc_A B)) := by
  intro ok H locs ls hP hz hcz hS hl
  obtain ⟨hx, hb, hml, hown, hts⟩ := ok.1
  refine W.widen (k := cN) (n := sN) (Nat.le_of_ble_eq_true hc1) (Nat.le_of_ble_eq_true hs1) ?_
  exact W.vret hx hb ok.2.1 (fun t ht hW => ⟨rfl, by rw [ht]; exact hz, by rw [ht]; exact hP, hS.F ht⟩) hS.2.2 hd ok.2.2.1
theorem qc_after {y : MethodName} {b : ByteArray} {maxL lev2 cN2 sN2 B2 n : Nat} {w d d2 : List va_E} {As : List Value} (hn : pc + 3 = n) (hes : es = w ++ d) (hB : B + w.length = B2) (hlen : d2.length = d.length + cN2)
    (run : qc_ok D cy ax B X own cc nL → ∀ (H : Heap) (locs : List Loc) (ls : Array Slot), va_P D vwCl (qc_wd B es) H → H.size = B + es.length → va_S (qc_A B) X.2.2.1.heap H locs → lv_has ls nL lv → va_Run X.1 l X.2.1 (qv_roomx cN sN lev) X.2.2.1 X.2.2.2.1 X.2.2.2.2.1 X.2.2.2.2.2.1 X.2.2.2.2.2.2.1 X.2.2.2.2.2.2.2 H locs c0 s0 cN2 sN2 (F0 X.2.2.2.1 pc ls (As.reverse ++ .ref B2 :: st)) st (qc_Q D B2 d2 (Value.ref B2 :: As).toArray) (qc_A B2))
    (k : VC l D cy ax B X own cc nL lev cN sN n lv st (w ++ d2) (c0 + cN2) (s0 + sN2) Q) : VC l D cy ax B X own cc nL lev cN sN pc lv (As.reverse ++ .ref B2 :: st) es c0 s0 Q := by
  subst hn
  subst hes
  intro ok H locs ls hP hz hcz hS hl
  intro T hT XX
  obtain ⟨v, st₀, t, T', Lx, h0, X', hL, e1, e2, ⟨hv, hz2, hP2, hzz, hk⟩, stp⟩ := run ok H locs ls hP hz hS hl T hT XX
  cases hv
  rw [h0] at hzz hk
  rw [List.length_append] at hz hcz
  have hB2 : B2 ≤ H.size := by omega
  obtain ⟨t2, a1, b1⟩ := k ok T'.heap (locs ++ Lx) ls (by rw [e1]; exact qc_join hB hP (fun q hq => hk q (by omega) (by show ¬ B2 ≤ q; omega)) hP2) (by rw [e1, hz2, List.length_append]; omega) (by rw [List.length_append]; omega) ⟨Nat.le_trans hS.1 (by rw [e1]; exact hzz), fun q h1 h2 => by
      have hqB : q < B := by have : ¬ B ≤ q := h2; omega
      rw [e1, hk q (by have := hS.1; omega) (by show ¬ B2 ≤ q; omega)]
      exact hS.2.1 q h1 h2, fun q hq => by
      rcases List.mem_append.mp hq with h | h
      · exact hS.2.2 q h
      · have h9 : B2 ≤ q.base := hL q h
        show B ≤ q.base
        omega⟩ hl T' rfl X'
  exact ⟨t2, stp t2 a1, b1⟩
theorem qc_pre {B2 : Nat} {w d : List va_E} {As : List Value} {H : Heap} {locs : List Loc} (hes : es = w ++ d) (hB : B + w.length = B2) (ok : qc_ok D cy ax B X own cc nL) (hP : va_P D vwCl (qc_wd B es) H) (hz : H.size = B + es.length) (hS : va_S (qc_A B) X.2.2.1.heap H locs) : PreS X.2.2.1 H (qc_Pc D cy ax B2 d (.ref B2 :: As)) (.ref B2 :: As) := by
  refine ⟨fun a U g mk q => ?_, fun U hU hW => ⟨rfl, ?_, ?_, va_K.moved hW.alike ok.2.2.2.1, qc_ro_go ok.2.2.2.2.2 hS hU hW (fun q h => ?_)⟩⟩
  · obtain ⟨q0, q1, q2, q3, q4⟩ := q
    exact ⟨q0, q1, q2, va_K.moved (u := U) (U := U.calling g mk a) (Vm.Alike.refl U.vm) q3, qc_ro_blind q4⟩
  · rw [hU, hz, hes, List.length_append]; omega
  · rw [hU]; exact qc_shift hB (hes ▸ hP)
  · have : B2 ≤ q := h
    show B ≤ q
    omega
theorem qc_callI {y : MethodName} {b : ByteArray} {maxL lev2 cN2 sN2 B2 n idx na : Nat} {w d d2 : List va_E} (As : List Value) {st0 : List Value} (hd : decode cc pc = .ok (.invokespecial idx, 3)) (hn : pc + 3 = n) (hst : st0 = As.reverse ++ .ref B2 :: st) (hes : es = w ++ d) (hB : B + w.length = B2) (hlen : d2.length = d.length + cN2) (hna : As.length = na) (hi : y.name = "<init>") (cv : (Cond.methodLink own idx y ∈ gw_tbl ∧ Cond.instanceMethod y ∈ gw_tbl ∧ Cond.initialized y.cls ∈ gw_tbl ∧ Cond.code y b maxL none ∈ gw_tbl) ∧ (y.cls ≠ "java/lang/invoke/MethodHandle" ∧ y.cls ≠ "java/lang/invoke/VarHandle" ∧ (parseMethodDescriptor y.desc).map (fun d => d.parameters.length) = some na)) (hsum : (st.map fun v => v.category).sum ≤ 8) (hlev : Nat.ble (lev2 + 1) lev = true) (hmax : Nat.ble maxL 45 = true) (hc1 : Nat.ble (c0 + cN2) cN = true) (hs1 : Nat.ble (s0 + sN2) sN = true) (hK : Kc l D cy ax y b maxL lev2 cN2 sN2 (.ref B2 :: As) B2 d d2)
    (k : VC l D cy ax B X own cc nL lev cN sN n lv st (w ++ d2) (c0 + cN2) (s0 + sN2) Q) : VC l D cy ax B X own cc nL lev cN sN pc lv st0 es c0 s0 Q := by
  subst hst
  refine qc_after (y := y) (b := b) (maxL := maxL) (lev2 := lev2) hn hes hB hlen (fun ok H locs ls hP hz hS hl => ?_) k
  obtain ⟨hx, hb, hml, hown, hts⟩ := ok.1
  have h1 := Nat.le_of_ble_eq_true hlev
  have h2 := Nat.le_of_ble_eq_true hmax
  exact va_runI (As := As) (rest := st) ⟨hx, hb, hml, hown, hts⟩ hK ⟨callB_of na hts (gw_ws cv.1.2.2.2) rfl rfl rfl (hts _ cv.1.2.2.1) (hts _ cv.1.1) cv.2 ⟨h1, by simp only [qv_roomx]; omega⟩, hi, hts _ cv.1.2.1⟩ (qc_pre hes hB ok hP hz hS) rfl hna hl.1 rfl (lv_room hsum) hd ⟨Nat.le_of_ble_eq_true hc1, Nat.le_of_ble_eq_true hs1⟩
theorem qc_callN {y : MethodName} {b : ByteArray} {maxL lev2 cN2 sN2 B2 n idx na : Nat} {w d d2 : List va_E} (As : List Value) {st0 : List Value} (hd : decode cc pc = .ok (.invokespecial idx, 3)) (hn : pc + 3 = n) (hst : st0 = As.reverse ++ .ref B2 :: st) (hes : es = w ++ d) (hB : B + w.length = B2) (hlen : d2.length = d.length + cN2) (hna : As.length = na) (hi : y.name = "<init>") (hnw : ∀ A U, qc_ro ax A U → va_Nw (.methodLinkNest own idx y "QuietTake") U) (cv : (Cond.instanceMethod y ∈ gw_tbl ∧ Cond.initialized y.cls ∈ gw_tbl ∧ Cond.code y b maxL none ∈ gw_tbl) ∧ (y.cls ≠ "java/lang/invoke/MethodHandle" ∧ y.cls ≠ "java/lang/invoke/VarHandle" ∧ (parseMethodDescriptor y.desc).map (fun d => d.parameters.length) = some na)) (hsum : (st.map fun v => v.category).sum ≤ 8) (hlev : Nat.ble (lev2 + 1) lev = true) (hmax : Nat.ble maxL 45 = true) (hc1 : Nat.ble (c0 + cN2) cN = true) (hs1 : Nat.ble (s0 + sN2) sN = true) (hK : Kc l D cy ax y b maxL lev2 cN2 sN2 (.ref B2 :: As) B2 d d2)
    (k : VC l D cy ax B X own cc nL lev cN sN n lv st (w ++ d2) (c0 + cN2) (s0 + sN2) Q) : VC l D cy ax B X own cc nL lev cN sN pc lv st0 es c0 s0 Q := by
  subst hst
  refine qc_after (y := y) (b := b) (maxL := maxL) (lev2 := lev2) hn hes hB hlen (fun ok H locs ls hP hz hS hl => ?_) k
  obtain ⟨hx, hb, hml, hown, hts⟩ := ok.1
  have h1 := Nat.le_of_ble_eq_true hlev
  have h2 := Nat.le_of_ble_eq_true hmax
  exact va_runIN (As := As) (rest := st) (host := "QuietTake") ⟨hx, hb, hml, hown, hts⟩ hK ⟨va_cnB na hts (gw_ws cv.1.2.2) rfl rfl rfl (hnw _ _ ok.2.2.2.2.2) (hts _ cv.1.2.1) cv.2 ⟨h1, by simp only [qv_roomx]; omega⟩, hi, hts _ cv.1.1⟩ (qc_pre hes hB ok hP hz hS) rfl hna hl.1 rfl (lv_room hsum) hd ⟨Nat.le_of_ble_eq_true hc1, Nat.le_of_ble_eq_true hs1⟩
/-- from here on the world is a layout's: the rest is walked by VVx -/
theorem qc_vv {L : List qv_Lc} {S S2 : qv_St} {o : Option qv_St} (hL : Nat.ble L.length 1000 = true) (hL0 : Nat.ble 1 L.length = true) (hX : X.2.2.1.heap.size = B + 1) (hcN : B + 1 + cN = B + L.length) (hc1 : Nat.ble c0 cN = true) (hs1 : Nat.ble s0 sN = true) (hes : es = qc_es (qc_ad B ax) cy L S) (ho : o = some S2) (hv : VVx cN sN (l, D, qc_ad B ax, cy) L X own cc nL none lev qe_u pc lv st S o) : VC l D cy ax B X own cc nL lev cN sN pc lv st es c0 s0 (MQ X.2.2.2.2.2.1 (qc_Q D B (qc_es (qc_ad B ax) cy L S2)) X.2.2.2.2.1 X.2.2.1 cN sN (qc_A B)) := by
  subst hes
  have h1 := Nat.le_of_ble_eq_true hL
  have h2 := Nat.le_of_ble_eq_true hL0
  have had : ∀ q, q < L.length → qc_ad B ax q = B + q := fun q hq => by simp [qc_ad, show q < 1000 by omega]
  intro ok H locs ls hP hz hcz hS hl
  refine W.widen (k := cN) (n := sN) (Nat.le_of_ble_eq_true hc1) (Nat.le_of_ble_eq_true hs1) ?_
  refine qc_locs (locs2 := locs.filter (fun q => decide (q.base = B))) (fun q hq hlt => List.mem_filter.mpr ⟨hq, ?_⟩) ?_
  · have h8 : B ≤ q.base := hS.2.2 q hq
    have h9 : q.base < B + 1 := hX ▸ hlt
    simp only [decide_eq_true_eq]
    exact Nat.le_antisymm (Nat.le_of_lt_succ h9) h8
  · have hAA : ∀ q, qv_A (qc_ad B ax) L q → B ≤ q := fun q ⟨i, hi, e⟩ => by rw [e, had i hi]; omega
    refine qc_mono (fun t ht => ?_) (hv S2 ho ⟨ok.1, ok.2.1, ok.2.2.1, ok.2.2.2.1, fun i j hi hj e => ?_, ?_⟩ H _ ls (by rw [← qc_wd_es h1]; exact hP) ⟨hS.1, fun q hq hn => ?_, fun q hq => ?_⟩ hl)
    · obtain ⟨oc, t1, t2, ⟨t3, t4, t5⟩, Lx, t6, t7⟩ := ht
      refine ⟨oc, t1, t2, ⟨t3, ?_, ?_, t5.1, fun q hq hn => t5.2 q hq (fun z => hn (hAA q z))⟩, Lx, t6, fun q hq => hAA _ (t7 q hq)⟩
      · have g1 : t.heap.size ≤ X.2.2.1.heap.size + cN := t6.2.2.2.2.1
        rw [← qc_wd_es h1] at t4
        have g2 : (qc_es (qc_ad B ax) cy L S2).length = L.length := by simp [qc_es]
        have g3 := (t4 (L.length - 1) _ (qc_at (List.getElem?_eq_getElem (by rw [g2]; omega)))).lt
        dsimp only at g3
        rw [g2]
        omega
      · rw [qc_wd_es h1]; exact t4
    · have e2 : qc_ad B ax i = qc_ad B ax j := e
      rw [had i hi, had j hj] at e2
      omega
    · obtain ⟨r1, r2, r3, r4, r5, r6⟩ := ok.2.2.2.2.2.1
      have k1 : ∀ i, qc_ad B ax (1000 + i) = ax (1000 + i) := fun i => by simp [qc_ad, show ¬ 1000 + i < 1000 by omega]
      have k2 : ∀ i, qc_ad B ax (2000 + i) = ax (2000 + i) := fun i => by simp [qc_ad, show ¬ 2000 + i < 1000 by omega]
      refine ⟨?_, r2, r3, r4.narrow hAA, r5.narrow hAA, r6⟩
      show vk_S 2 qv_len qv_byt (fun i => qc_ad B ax (1000 + i)) (fun i => qc_ad B ax (2000 + i)) _ _ _
      simp only [k1, k2]
      exact r1.narrow hAA
    · refine hS.2.1 q hq (fun z => hn ⟨0, by omega, ?_⟩)
      have h8 : B ≤ q := z
      have h9 : q < B + 1 := hX ▸ hq
      show q = qc_ad B ax 0
      rw [had 0 (by omega)]
      omega
    · have := (List.mem_filter.mp hq).2
      simp only [decide_eq_true_eq] at this
      exact ⟨0, by omega, by rw [this]; exact (had 0 (by omega)).symm⟩
end QCR
