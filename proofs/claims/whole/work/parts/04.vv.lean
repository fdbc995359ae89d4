def qv_s0 : String := ";=+-*/<()"
def qv_s1 : String := "clock   chance  place   shot    hear    bears   rustles move    coins   seed    if      then    else    loud    age     lasts   far     limit   second  stood   which   day     "
def qv_len : List Nat := [9, 176]
def qv_b0 : List Int32 := [59, 61, 43, 45, 42, 47, 60, 40, 41]
def qv_b1 : List Int32 := [99, 108, 111, 99, 107, 32, 32, 32, 99, 104, 97, 110, 99, 101, 32, 32, 112, 108, 97, 99, 101, 32, 32, 32, 115, 104, 111, 116, 32, 32, 32, 32, 104, 101, 97, 114, 32, 32, 32, 32, 98, 101, 97, 114, 115, 32, 32, 32, 114, 117, 115, 116, 108, 101, 115, 32, 109, 111, 118, 101, 32, 32, 32, 32, 99, 111, 105, 110, 115, 32, 32, 32, 115, 101, 101, 100, 32, 32, 32, 32, 105, 102, 32, 32, 32, 32, 32, 32, 116, 104, 101, 110, 32, 32, 32, 32, 101, 108, 115, 101, 32, 32, 32, 32, 108, 111, 117, 100, 32, 32, 32, 32, 97, 103, 101, 32, 32, 32, 32, 32, 108, 97, 115, 116, 115, 32, 32, 32, 102, 97, 114, 32, 32, 32, 32, 32, 108, 105, 109, 105, 116, 32, 32, 32, 115, 101, 99, 111, 110, 100, 32, 32, 115, 116, 111, 111, 100, 32, 32, 32, 119, 104, 105, 99, 104, 32, 32, 32, 100, 97, 121, 32, 32, 32, 32, 32]
def qv_byt : List (List Int32) := [qv_b0, qv_b1]
def qv_fm (G : qv_GT) : Value := if G.2.2.1 3001 = 0 then .null else .ref (G.2.2.1 3000)
theorem qv_fm_cat {G : qv_GT} : (qv_fm G).category = 1 := by unfold qv_fm; split <;> rfl
/-- the two texts of the class: they are no cells of the world, and never change -/
def qv_ro (G : qv_GT) (L : List qv_Lc) (U : State) : Prop := vk_S 2 qv_len qv_byt (fun i => G.2.2.1 (1000 + i)) (fun i => G.2.2.1 (2000 + i)) (qv_A G.2.2.1 L) U U.heap ∧ vk_R "QuietTake$Tokens" 66 qv_s0 (G.2.2.1 1000) U ∧ vk_R "QuietTake$Tokens" 77 qv_s1 (G.2.2.1 1001) U ∧ va_Z "java/lang/String" "COMPACT_STRINGS" "Z" (.int 1) (qv_A G.2.2.1 L) U U.heap ∧ va_Z "jdk/internal/util/Preconditions" "SIOOBE_FORMATTER" "Ljava/util/function/BiFunction;" (qv_fm G) (qv_A G.2.2.1 L) U U.heap ∧ va_Nw (.methodLinkNest "QuietTake$Reader" 108 ⟨"QuietTake", "within", "(III)Z"⟩ "QuietTake") U
theorem qv_ro_go {G : qv_GT} {L : List qv_Lc} {s U : State} {H : Heap} {locs : List Loc} (h : qv_ro G L s) (hS : va_S (qv_A G.2.2.1 L) s.heap H locs) (hU : U.heap = H) (hW : s.WarmedH U.vm) : qv_ro G L U := by
  obtain ⟨h1, h2, h3, h4, h5, h6⟩ := h
  exact ⟨by rw [hU]; exact (h1.kept hS.2.1).moved hW.alike, h2.warm hW, h3.warm hW, by rw [hU]; exact (h4.kept hS.2.1).moved hW.alike, by rw [hU]; exact (h5.kept hS.2.1).moved hW.alike, h6.warmM hW⟩
/-! VV: from this pc, these locals, this stack and this heap, the method comes to the end that the pure program o tells. -/
def qv_roomx (cx sx lev : Nat) : Room := { frames := lev, cells := cx, slots := sx, locals := 64 * lev }
def qv_room (lev : Nat) : Room := { frames := lev, cells := 0, slots := 0, locals := 64 * lev }
def qv_Q (G : qv_GT) (L : List qv_Lc) (r : qv_St × Option Value) : Array Value → State → Outcome → State → Prop := fun _ st oc t => oc = .returned r.2 ∧ va_P G.2.1 vwCl (qv_wd G.2.2.1 G.2.2.2 L r.1) t.heap ∧ va_F (qv_A G.2.2.1 L) st t
def qv_ok (G : qv_GT) (L : List qv_Lc) (X : qv_XT) (own : String) (cc : ByteArray) (nL : Nat) (ret : Option FieldType) : Prop :=
  (X.1.tables.exec = Jvm.exec ∧ X.2.2.2.2.2.2.2.code = cc ∧ X.2.2.2.2.2.2.2.maxLocals = nL ∧ X.2.2.1.vm.findClass own = some X.2.2.2.1.cls ∧ ∀ w ∈ gw_tbl, w.before X.2.2.2.2.1 X.2.2.1 = true) ∧ X.2.2.2.2.2.2.1.sig.returnType = ret ∧ X.2.2.2.2.2.2.1.locks = false ∧ va_K G.2.1 vwCl (qv_tys G.2.2.2) X.2.2.1 ∧ qv_inj G.2.2.1 L ∧ qv_ro G L X.2.2.1
def VVx (cx sx : Nat) (G : qv_GT) (L : List qv_Lc) (X : qv_XT) (own : String) (cc : ByteArray) (nL : Nat) (ret : Option FieldType) (lev : Nat) {ρ : Type} (emb : ρ → qv_St × Option Value) (pc : Nat) (lv : List (Nat × Value)) (st : List Value) (S : qv_St) (o : Option ρ) : Prop :=
  ∀ r : ρ, o = some r → qv_ok G L X own cc nL ret → ∀ (H : Heap) (locs : List Loc) (ls : Array Slot), va_P G.2.1 vwCl (qv_wd G.2.2.1 G.2.2.2 L S) H → va_S (qv_A G.2.2.1 L) X.2.2.1.heap H locs → lv_has ls nL lv → W X.1 G.1 X.2.1 (qv_roomx cx sx lev) X.2.2.1 X.2.2.2.1 X.2.2.2.2.1 X.2.2.2.2.2.1 X.2.2.2.2.2.2.1 X.2.2.2.2.2.2.2 H locs cx sx (MQ X.2.2.2.2.2.1 (qv_Q G L (emb r)) X.2.2.2.2.1 X.2.2.1 cx sx (qv_A G.2.2.1 L)) (F0 X.2.2.2.1 pc ls st)
abbrev VV (G : qv_GT) (L : List qv_Lc) (X : qv_XT) (own : String) (cc : ByteArray) (nL : Nat) (ret : Option FieldType) (lev : Nat) {ρ : Type} (emb : ρ → qv_St × Option Value) (pc : Nat) (lv : List (Nat × Value)) (st : List Value) (S : qv_St) (o : Option ρ) : Prop := VVx 0 0 G L X own cc nL ret lev emb pc lv st S o
section QVR
variable {cx sx : Nat} {G : qv_GT} {L : List qv_Lc} {X : qv_XT} {own : String} {cc : ByteArray} {nL : Nat} {ret : Option FieldType} {lev : Nat} {ρ : Type} {emb : ρ → qv_St × Option Value} {pc : Nat} {lv : List (Nat × Value)} {st : List Value} {S : qv_St} {o : Option ρ}
theorem qr_iadd {x y : Int32} {n : Nat} (hd : decode cc pc = .ok (.iadd, 1)) (hn : pc + 1 = n) (k : VVx cx sx G L X own cc nL ret lev emb n lv (.int (x + y) :: st) S o) : VVx cx sx G L X own cc nL ret lev emb pc lv (.int y :: .int x :: st) S o := by
  subst hn
  intro r hr ok H locs ls hP hS hl
  obtain ⟨hx, hb, hml, hown, hts⟩ := ok.1
  exact lv_iadd hx hb hd (k r hr ok H locs ls hP hS hl)
theorem qr_isub {x y : Int32} {n : Nat} (hd : decode cc pc = .ok (.isub, 1)) (hn : pc + 1 = n) (k : VVx cx sx G L X own cc nL ret lev emb n lv (.int (x - y) :: st) S o) : VVx cx sx G L X own cc nL ret lev emb pc lv (.int y :: .int x :: st) S o := by
  subst hn
  intro r hr ok H locs ls hP hS hl
  obtain ⟨hx, hb, hml, hown, hts⟩ := ok.1
  exact lv_isub hx hb hd (k r hr ok H locs ls hP hS hl)
theorem qr_imul {x y : Int32} {n : Nat} (hd : decode cc pc = .ok (.imul, 1)) (hn : pc + 1 = n) (k : VVx cx sx G L X own cc nL ret lev emb n lv (.int (x * y) :: st) S o) : VVx cx sx G L X own cc nL ret lev emb pc lv (.int y :: .int x :: st) S o := by
  subst hn
  intro r hr ok H locs ls hP hS hl
  obtain ⟨hx, hb, hml, hown, hts⟩ := ok.1
  exact lv_imul hx hb hd (k r hr ok H locs ls hP hS hl)
theorem qr_iand {x y : Int32} {n : Nat} (hd : decode cc pc = .ok (.iand, 1)) (hn : pc + 1 = n) (k : VVx cx sx G L X own cc nL ret lev emb n lv (.int (x &&& y) :: st) S o) : VVx cx sx G L X own cc nL ret lev emb pc lv (.int y :: .int x :: st) S o := by
  subst hn
  intro r hr ok H locs ls hP hS hl
  obtain ⟨hx, hb, hml, hown, hts⟩ := ok.1
  exact lv_iand hx hb hd (k r hr ok H locs ls hP hS hl)
theorem qr_ior {x y : Int32} {n : Nat} (hd : decode cc pc = .ok (.ior, 1)) (hn : pc + 1 = n) (k : VVx cx sx G L X own cc nL ret lev emb n lv (.int (x ||| y) :: st) S o) : VVx cx sx G L X own cc nL ret lev emb pc lv (.int y :: .int x :: st) S o := by
  subst hn
  intro r hr ok H locs ls hP hS hl
  obtain ⟨hx, hb, hml, hown, hts⟩ := ok.1
  exact lv_ior hx hb hd (k r hr ok H locs ls hP hS hl)
theorem qr_ixor {x y : Int32} {n : Nat} (hd : decode cc pc = .ok (.ixor, 1)) (hn : pc + 1 = n) (k : VVx cx sx G L X own cc nL ret lev emb n lv (.int (x ^^^ y) :: st) S o) : VVx cx sx G L X own cc nL ret lev emb pc lv (.int y :: .int x :: st) S o := by
  subst hn
  intro r hr ok H locs ls hP hS hl
  obtain ⟨hx, hb, hml, hown, hts⟩ := ok.1
  exact lv_ixor hx hb hd (k r hr ok H locs ls hP hS hl)
theorem qr_ishl {x y : Int32} {n : Nat} (hd : decode cc pc = .ok (.ishl, 1)) (hn : pc + 1 = n) (k : VVx cx sx G L X own cc nL ret lev emb n lv (.int (x <<< (y &&& 31)) :: st) S o) : VVx cx sx G L X own cc nL ret lev emb pc lv (.int y :: .int x :: st) S o := by
  subst hn
  intro r hr ok H locs ls hP hS hl
  obtain ⟨hx, hb, hml, hown, hts⟩ := ok.1
  exact lv_ishl hx hb hd (k r hr ok H locs ls hP hS hl)
theorem qr_ishr {x y : Int32} {n : Nat} (hd : decode cc pc = .ok (.ishr, 1)) (hn : pc + 1 = n) (k : VVx cx sx G L X own cc nL ret lev emb n lv (.int (x >>> (y &&& 31)) :: st) S o) : VVx cx sx G L X own cc nL ret lev emb pc lv (.int y :: .int x :: st) S o := by
  subst hn
  intro r hr ok H locs ls hP hS hl
  obtain ⟨hx, hb, hml, hown, hts⟩ := ok.1
  exact lv_ishr hx hb hd (k r hr ok H locs ls hP hS hl)
theorem qr_iushr {x y : Int32} {n : Nat} (hd : decode cc pc = .ok (.iushr, 1)) (hn : pc + 1 = n) (k : VVx cx sx G L X own cc nL ret lev emb n lv (.int ((x.toUInt32 >>> (y.toUInt32 &&& Int32.toUInt32 31)).toInt32) :: st) S o) : VVx cx sx G L X own cc nL ret lev emb pc lv (.int y :: .int x :: st) S o := by
  subst hn
  intro r hr ok H locs ls hP hS hl
  obtain ⟨hx, hb, hml, hown, hts⟩ := ok.1
  exact lv_iushr hx hb hd rfl (k r hr ok H locs ls hP hS hl)
theorem qr_ineg {x : Int32} {n : Nat} (hd : decode cc pc = .ok (.ineg, 1)) (hn : pc + 1 = n) (k : VVx cx sx G L X own cc nL ret lev emb n lv (.int (-x) :: st) S o) : VVx cx sx G L X own cc nL ret lev emb pc lv (.int x :: st) S o := by
  subst hn
  intro r hr ok H locs ls hP hS hl
  obtain ⟨hx, hb, hml, hown, hts⟩ := ok.1
  exact lv_ineg hx hb hd (k r hr ok H locs ls hP hS hl)
theorem qr_i2b {x : Int32} {n : Nat} (hd : decode cc pc = .ok (.i2b, 1)) (hn : pc + 1 = n) (k : VVx cx sx G L X own cc nL ret lev emb n lv (.int x.toInt8.toInt32 :: st) S o) : VVx cx sx G L X own cc nL ret lev emb pc lv (.int x :: st) S o := by
  subst hn
  intro r hr ok H locs ls hP hS hl
  obtain ⟨hx, hb, hml, hown, hts⟩ := ok.1
  exact lv_i2b hx hb hd rfl (k r hr ok H locs ls hP hS hl)
theorem qr_i2c {x : Int32} {n : Nat} (hd : decode cc pc = .ok (.i2c, 1)) (hn : pc + 1 = n) (k : VVx cx sx G L X own cc nL ret lev emb n lv (.int (x.toUInt32 % 65536).toInt32 :: st) S o) : VVx cx sx G L X own cc nL ret lev emb pc lv (.int x :: st) S o := by
  subst hn
  intro r hr ok H locs ls hP hS hl
  obtain ⟨hx, hb, hml, hown, hts⟩ := ok.1
  exact lv_i2c hx hb hd rfl (k r hr ok H locs ls hP hS hl)
theorem qr_i2l {x : Int32} {n : Nat} (hd : decode cc pc = .ok (.i2l, 1)) (hn : pc + 1 = n) (k : VVx cx sx G L X own cc nL ret lev emb n lv (.long x.toInt64 :: st) S o) : VVx cx sx G L X own cc nL ret lev emb pc lv (.int x :: st) S o := by
  subst hn
  intro r hr ok H locs ls hP hS hl
  obtain ⟨hx, hb, hml, hown, hts⟩ := ok.1
  exact lv_i2l hx hb hd rfl (k r hr ok H locs ls hP hS hl)
theorem qr_l2i {x : Int64} {n : Nat} (hd : decode cc pc = .ok (.l2i, 1)) (hn : pc + 1 = n) (k : VVx cx sx G L X own cc nL ret lev emb n lv (.int x.toInt32 :: st) S o) : VVx cx sx G L X own cc nL ret lev emb pc lv (.long x :: st) S o := by
  subst hn
  intro r hr ok H locs ls hP hS hl
  obtain ⟨hx, hb, hml, hown, hts⟩ := ok.1
  exact lv_l2i hx hb hd rfl (k r hr ok H locs ls hP hS hl)
theorem qr_ladd {x y : Int64} {n : Nat} (hd : decode cc pc = .ok (.ladd, 1)) (hn : pc + 1 = n) (k : VVx cx sx G L X own cc nL ret lev emb n lv (.long (x + y) :: st) S o) : VVx cx sx G L X own cc nL ret lev emb pc lv (.long y :: .long x :: st) S o := by
  subst hn
  intro r hr ok H locs ls hP hS hl
  obtain ⟨hx, hb, hml, hown, hts⟩ := ok.1
  exact lv_ladd hx hb hd (k r hr ok H locs ls hP hS hl)
theorem qr_lsub {x y : Int64} {n : Nat} (hd : decode cc pc = .ok (.lsub, 1)) (hn : pc + 1 = n) (k : VVx cx sx G L X own cc nL ret lev emb n lv (.long (x - y) :: st) S o) : VVx cx sx G L X own cc nL ret lev emb pc lv (.long y :: .long x :: st) S o := by
  subst hn
  intro r hr ok H locs ls hP hS hl
  obtain ⟨hx, hb, hml, hown, hts⟩ := ok.1
  exact lv_lsub hx hb hd (k r hr ok H locs ls hP hS hl)
theorem qr_lmul {x y : Int64} {n : Nat} (hd : decode cc pc = .ok (.lmul, 1)) (hn : pc + 1 = n) (k : VVx cx sx G L X own cc nL ret lev emb n lv (.long (x * y) :: st) S o) : VVx cx sx G L X own cc nL ret lev emb pc lv (.long y :: .long x :: st) S o := by
  subst hn
  intro r hr ok H locs ls hP hS hl
  obtain ⟨hx, hb, hml, hown, hts⟩ := ok.1
  exact lv_lmul hx hb hd (k r hr ok H locs ls hP hS hl)
theorem qr_lcmp {x y : Int64} {n : Nat} (hd : decode cc pc = .ok (.lcmp, 1)) (hn : pc + 1 = n) (k : VVx cx sx G L X own cc nL ret lev emb n lv (.int (lg_cmp x y) :: st) S o) : VVx cx sx G L X own cc nL ret lev emb pc lv (.long y :: .long x :: st) S o := by
  subst hn
  intro r hr ok H locs ls hP hS hl
  obtain ⟨hx, hb, hml, hown, hts⟩ := ok.1
  exact W.lcmp hx hb hd (k r hr ok H locs ls hP hS hl)
theorem qr_idiv {x y : Int32} {n : Nat} (hd : decode cc pc = .ok (.idiv, 1)) (hn : pc + 1 = n) (k : VVx cx sx G L X own cc nL ret lev emb n lv (.int (x / y) :: st) S o) : VVx cx sx G L X own cc nL ret lev emb pc lv (.int y :: .int x :: st) S (qv_nz y o) := by
  subst hn
  intro r hr ok H locs ls hP hS hl
  obtain ⟨hx, hb, hml, hown, hts⟩ := ok.1
  unfold qv_nz at hr
  split at hr
  · cases hr
  · next h0 => exact lv_idiv hx hb hd h0 (k r hr ok H locs ls hP hS hl)
theorem qr_irem {x y : Int32} {n : Nat} (hd : decode cc pc = .ok (.irem, 1)) (hn : pc + 1 = n) (k : VVx cx sx G L X own cc nL ret lev emb n lv (.int (x - x / y * y) :: st) S o) : VVx cx sx G L X own cc nL ret lev emb pc lv (.int y :: .int x :: st) S (qv_nz y o) := by
  subst hn
  intro r hr ok H locs ls hP hS hl
  obtain ⟨hx, hb, hml, hown, hts⟩ := ok.1
  unfold qv_nz at hr
  split at hr
  · cases hr
  · next h0 => exact lv_irem hx hb hd h0 (k r hr ok H locs ls hP hS hl)
theorem qr_iconst {a : Int} (v : Int32) {n : Nat} (hd : decode cc pc = .ok (.iconst a, 1)) (hn : pc + 1 = n) (hv : Int32.ofInt a = v) (k : VVx cx sx G L X own cc nL ret lev emb n lv (.int v :: st) S o) : VVx cx sx G L X own cc nL ret lev emb pc lv st S o := by
  subst hn
  intro r hr ok H locs ls hP hS hl
  obtain ⟨hx, hb, hml, hown, hts⟩ := ok.1
  exact lv_iconst hx hb hd hv (k r hr ok H locs ls hP hS hl)
theorem qr_bipush {a : Int} (v : Int32) {n : Nat} (hd : decode cc pc = .ok (.bipush a, 2)) (hn : pc + 2 = n) (hv : (Int8.ofInt a).toInt32 = v) (k : VVx cx sx G L X own cc nL ret lev emb n lv (.int v :: st) S o) : VVx cx sx G L X own cc nL ret lev emb pc lv st S o := by
  subst hn
  intro r hr ok H locs ls hP hS hl
  obtain ⟨hx, hb, hml, hown, hts⟩ := ok.1
  exact lv_bipush hx hb hd hv (k r hr ok H locs ls hP hS hl)
theorem qr_sipush {a : Int} (v : Int32) {n : Nat} (hd : decode cc pc = .ok (.sipush a, 3)) (hn : pc + 3 = n) (hv : (Int16.ofInt a).toInt32 = v) (k : VVx cx sx G L X own cc nL ret lev emb n lv (.int v :: st) S o) : VVx cx sx G L X own cc nL ret lev emb pc lv st S o := by
  subst hn
  intro r hr ok H locs ls hP hS hl
  obtain ⟨hx, hb, hml, hown, hts⟩ := ok.1
  exact lv_sipush hx hb hd hv (k r hr ok H locs ls hP hS hl)
theorem qr_lconst {a : Fin 2} (v : Int64) {n : Nat} (hd : decode cc pc = .ok (.lconst a, 1)) (hn : pc + 1 = n) (hv : Int64.ofNat (a : Nat) = v) (k : VVx cx sx G L X own cc nL ret lev emb n lv (.long v :: st) S o) : VVx cx sx G L X own cc nL ret lev emb pc lv st S o := by
  subst hn
  intro r hr ok H locs ls hP hS hl
  obtain ⟨hx, hb, hml, hown, hts⟩ := ok.1
  exact lv_lconst hx hb hd hv (k r hr ok H locs ls hP hS hl)
theorem qr_ldc {idx : Nat} (v : Int32) {n : Nat} (hd : decode cc pc = .ok (.ldc idx, 2)) (hn : pc + 2 = n) (hw : Cond.constant own idx v ∈ gw_tbl) (k : VVx cx sx G L X own cc nL ret lev emb n lv (.int v :: st) S o) : VVx cx sx G L X own cc nL ret lev emb pc lv st S o := by
  subst hn
  intro r hr ok H locs ls hP hS hl
  obtain ⟨hx, hb, hml, hown, hts⟩ := ok.1
  exact lv_ldc hx hb hown (hts _ hw) hd (k r hr ok H locs ls hP hS hl)
theorem qr_ldcw {idx : Nat} (v : Int32) {n : Nat} (hd : decode cc pc = .ok (.ldc_w idx, 3)) (hn : pc + 3 = n) (hw : Cond.constant own idx v ∈ gw_tbl) (k : VVx cx sx G L X own cc nL ret lev emb n lv (.int v :: st) S o) : VVx cx sx G L X own cc nL ret lev emb pc lv st S o := by
  subst hn
  intro r hr ok H locs ls hP hS hl
  obtain ⟨hx, hb, hml, hown, hts⟩ := ok.1
  exact lv_ldcw hx hb hown (hts _ hw) hd (k r hr ok H locs ls hP hS hl)
theorem qr_ldc2 {idx : Nat} (v : Int64) {n : Nat} (hd : decode cc pc = .ok (.ldc2_w idx, 3)) (hn : pc + 3 = n) (hw : Cond.constantLong own idx v ∈ gw_tbl) (k : VVx cx sx G L X own cc nL ret lev emb n lv (.long v :: st) S o) : VVx cx sx G L X own cc nL ret lev emb pc lv st S o := by
  subst hn
  intro r hr ok H locs ls hP hS hl
  obtain ⟨hx, hb, hml, hown, hts⟩ := ok.1
  exact lv_ldc2 hx hb hown (hts _ hw) hd (k r hr ok H locs ls hP hS hl)
theorem qr_iload_n {q : Fin 4} {x : Int32} (j : Nat) {n : Nat} (hd : decode cc pc = .ok (.iload_n q, 1)) (hn : pc + 1 = n) (hj : lv[j]? = some ((q : Nat), .int x)) (k : VVx cx sx G L X own cc nL ret lev emb n lv (.int x :: st) S o) : VVx cx sx G L X own cc nL ret lev emb pc lv st S o := by
  subst hn
  intro r hr ok H locs ls hP hS hl
  obtain ⟨hx, hb, hml, hown, hts⟩ := ok.1
  exact lv_iload_n hx hb hd rfl (lv_at hl j hj) (k r hr ok H locs ls hP hS hl)
theorem qr_iload {i : Nat} {x : Int32} (j : Nat) {n : Nat} (hd : decode cc pc = .ok (.iload i, 2)) (hn : pc + 2 = n) (hj : lv[j]? = some (i, .int x)) (k : VVx cx sx G L X own cc nL ret lev emb n lv (.int x :: st) S o) : VVx cx sx G L X own cc nL ret lev emb pc lv st S o := by
  subst hn
  intro r hr ok H locs ls hP hS hl
  obtain ⟨hx, hb, hml, hown, hts⟩ := ok.1
  exact lv_iload hx hb hd (lv_at hl j hj) (k r hr ok H locs ls hP hS hl)
theorem qr_lload_n {q : Fin 4} {x : Int64} (j : Nat) {n : Nat} (hd : decode cc pc = .ok (.lload_n q, 1)) (hn : pc + 1 = n) (hj : lv[j]? = some ((q : Nat), .long x)) (k : VVx cx sx G L X own cc nL ret lev emb n lv (.long x :: st) S o) : VVx cx sx G L X own cc nL ret lev emb pc lv st S o := by
  subst hn
  intro r hr ok H locs ls hP hS hl
  obtain ⟨hx, hb, hml, hown, hts⟩ := ok.1
  exact lv_lload_n hx hb hd rfl (lv_at hl j hj) (k r hr ok H locs ls hP hS hl)
theorem qr_lload {i : Nat} {x : Int64} (j : Nat) {n : Nat} (hd : decode cc pc = .ok (.lload i, 2)) (hn : pc + 2 = n) (hj : lv[j]? = some (i, .long x)) (k : VVx cx sx G L X own cc nL ret lev emb n lv (.long x :: st) S o) : VVx cx sx G L X own cc nL ret lev emb pc lv st S o := by
  subst hn
  intro r hr ok H locs ls hP hS hl
  obtain ⟨hx, hb, hml, hown, hts⟩ := ok.1
  exact lv_lload hx hb hd (lv_at hl j hj) (k r hr ok H locs ls hP hS hl)
theorem qr_aload_n {q : Fin 4} {x : Nat} (j : Nat) {n : Nat} (hd : decode cc pc = .ok (.aload_n q, 1)) (hn : pc + 1 = n) (hj : lv[j]? = some ((q : Nat), .ref x)) (k : VVx cx sx G L X own cc nL ret lev emb n lv (.ref x :: st) S o) : VVx cx sx G L X own cc nL ret lev emb pc lv st S o := by
  subst hn
  intro r hr ok H locs ls hP hS hl
  obtain ⟨hx, hb, hml, hown, hts⟩ := ok.1
  exact lv_aload_n hx hb hd rfl (lv_at hl j hj) (k r hr ok H locs ls hP hS hl)
theorem qr_aload {i : Nat} {x : Nat} (j : Nat) {n : Nat} (hd : decode cc pc = .ok (.aload i, 2)) (hn : pc + 2 = n) (hj : lv[j]? = some (i, .ref x)) (k : VVx cx sx G L X own cc nL ret lev emb n lv (.ref x :: st) S o) : VVx cx sx G L X own cc nL ret lev emb pc lv st S o := by
  subst hn
  intro r hr ok H locs ls hP hS hl
  obtain ⟨hx, hb, hml, hown, hts⟩ := ok.1
  exact lv_aload hx hb hd (lv_at hl j hj) (k r hr ok H locs ls hP hS hl)
theorem qr_istore {i : Nat} {x : Int32} {n : Nat} {lv2 : List (Nat × Value)} (ks : List Nat) (hd : decode cc pc = .ok (.istore i, 2)) (hn : pc + 2 = n) (hi : i < nL) (hs : lv_pick ((i, Value.int x) :: lv.filter (fun q => !(q.1 == i) && !(q.1 + 1 == i && q.2.category == 2))) ks = lv2) (k : VVx cx sx G L X own cc nL ret lev emb n lv2 st S o) : VVx cx sx G L X own cc nL ret lev emb pc lv (.int x :: st) S o := by
  subst hn
  intro r hr ok H locs ls hP hS hl
  obtain ⟨hx, hb, hml, hown, hts⟩ := ok.1
  exact lv_istore hx hb hd hl hi rfl (fun ls2 hl2 => k r hr ok H locs ls2 hP hS (lv_sub hl2 ks hs))
theorem qr_istore_n {f : Fin 4} {i : Nat} {x : Int32} {n : Nat} {lv2 : List (Nat × Value)} (ks : List Nat) (hd : decode cc pc = .ok (.istore_n f, 1)) (hn : pc + 1 = n) (hf : (f : Nat) = i) (hi : i < nL) (hs : lv_pick ((i, Value.int x) :: lv.filter (fun q => !(q.1 == i) && !(q.1 + 1 == i && q.2.category == 2))) ks = lv2) (k : VVx cx sx G L X own cc nL ret lev emb n lv2 st S o) : VVx cx sx G L X own cc nL ret lev emb pc lv (.int x :: st) S o := by
  subst hn
  intro r hr ok H locs ls hP hS hl
  obtain ⟨hx, hb, hml, hown, hts⟩ := ok.1
  exact lv_istore_n hx hb hd hf hl hi rfl (fun ls2 hl2 => k r hr ok H locs ls2 hP hS (lv_sub hl2 ks hs))
theorem qr_lstore {i : Nat} {x : Int64} {n : Nat} {lv2 : List (Nat × Value)} (ks : List Nat) (hd : decode cc pc = .ok (.lstore i, 2)) (hn : pc + 2 = n) (hi : i + 1 < nL) (hs : lv_pick ((i, Value.long x) :: lv.filter (fun q => !(q.1 == i) && (!(q.1 == i + 1) && !(q.1 + 1 == i && q.2.category == 2)))) ks = lv2) (k : VVx cx sx G L X own cc nL ret lev emb n lv2 st S o) : VVx cx sx G L X own cc nL ret lev emb pc lv (.long x :: st) S o := by
  subst hn
  intro r hr ok H locs ls hP hS hl
  obtain ⟨hx, hb, hml, hown, hts⟩ := ok.1
  exact lv_lstore hx hb hd hl hi rfl (fun ls2 hl2 => k r hr ok H locs ls2 hP hS (lv_sub hl2 ks hs))
theorem qr_lstore_n {f : Fin 4} {i : Nat} {x : Int64} {n : Nat} {lv2 : List (Nat × Value)} (ks : List Nat) (hd : decode cc pc = .ok (.lstore_n f, 1)) (hn : pc + 1 = n) (hf : (f : Nat) = i) (hi : i + 1 < nL) (hs : lv_pick ((i, Value.long x) :: lv.filter (fun q => !(q.1 == i) && (!(q.1 == i + 1) && !(q.1 + 1 == i && q.2.category == 2)))) ks = lv2) (k : VVx cx sx G L X own cc nL ret lev emb n lv2 st S o) : VVx cx sx G L X own cc nL ret lev emb pc lv (.long x :: st) S o := by
  subst hn
  intro r hr ok H locs ls hP hS hl
  obtain ⟨hx, hb, hml, hown, hts⟩ := ok.1
  exact lv_lstore_n hx hb hd hf hl hi rfl (fun ls2 hl2 => k r hr ok H locs ls2 hP hS (lv_sub hl2 ks hs))
theorem qr_astore {i : Nat} {x : Nat} {n : Nat} {lv2 : List (Nat × Value)} (ks : List Nat) (hd : decode cc pc = .ok (.astore i, 2)) (hn : pc + 2 = n) (hi : i < nL) (hs : lv_pick ((i, Value.ref x) :: lv.filter (fun q => !(q.1 == i) && !(q.1 + 1 == i && q.2.category == 2))) ks = lv2) (k : VVx cx sx G L X own cc nL ret lev emb n lv2 st S o) : VVx cx sx G L X own cc nL ret lev emb pc lv (.ref x :: st) S o := by
  subst hn
  intro r hr ok H locs ls hP hS hl
  obtain ⟨hx, hb, hml, hown, hts⟩ := ok.1
  exact lv_astore hx hb hd hl hi rfl (fun ls2 hl2 => k r hr ok H locs ls2 hP hS (lv_sub hl2 ks hs))
theorem qr_astore_n {f : Fin 4} {i : Nat} {x : Nat} {n : Nat} {lv2 : List (Nat × Value)} (ks : List Nat) (hd : decode cc pc = .ok (.astore_n f, 1)) (hn : pc + 1 = n) (hf : (f : Nat) = i) (hi : i < nL) (hs : lv_pick ((i, Value.ref x) :: lv.filter (fun q => !(q.1 == i) && !(q.1 + 1 == i && q.2.category == 2))) ks = lv2) (k : VVx cx sx G L X own cc nL ret lev emb n lv2 st S o) : VVx cx sx G L X own cc nL ret lev emb pc lv (.ref x :: st) S o := by
  subst hn
  intro r hr ok H locs ls hP hS hl
  obtain ⟨hx, hb, hml, hown, hts⟩ := ok.1
  exact lv_astore_n hx hb hd hf hl hi rfl (fun ls2 hl2 => k r hr ok H locs ls2 hP hS (lv_sub hl2 ks hs))
theorem qr_iinc {i : Nat} {a : Int} {x v : Int32} {n : Nat} {lv2 : List (Nat × Value)} (j : Nat) (ks : List Nat) (hd : decode cc pc = .ok (.iinc i a, 3)) (hn : pc + 3 = n) (hj : lv[j]? = some (i, .int x)) (hv : Int32.ofInt a = v) (hi : i < nL) (hs : lv_pick ((i, Value.int (x + v)) :: lv.filter (fun q => !(q.1 == i) && !(q.1 + 1 == i && q.2.category == 2))) ks = lv2) (k : VVx cx sx G L X own cc nL ret lev emb n lv2 st S o) : VVx cx sx G L X own cc nL ret lev emb pc lv st S o := by
  subst hn
  subst hv
  intro r hr ok H locs ls hP hS hl
  obtain ⟨hx, hb, hml, hown, hts⟩ := ok.1
  exact lv_iinc hx hb hd hl hj rfl hi rfl (fun ls2 hl2 => k r hr ok H locs ls2 hP hS (lv_sub hl2 ks hs))
theorem qr_sub {lv2 : List (Nat × Value)} (ks : List Nat) (hs : lv_pick lv ks = lv2) (k : VVx cx sx G L X own cc nL ret lev emb pc lv2 st S o) : VVx cx sx G L X own cc nL ret lev emb pc lv st S o := fun r hr ok H locs ls hP hS hl => k r hr ok H locs ls hP hS (lv_sub hl ks hs)
theorem qr_b {α : Type} (e : α) {lvf : α → List (Nat × Value)} {stf : α → List Value} {Sf : α → qv_St} {of : α → Option ρ} (k : ∀ x : α, VVx cx sx G L X own cc nL ret lev emb pc (lvf x) (stf x) (Sf x) (of x)) : VVx cx sx G L X own cc nL ret lev emb pc (lvf e) (stf e) (Sf e) (qv_b e of) := k e
theorem qr_dup {va : Value} {n : Nat} (hd : decode cc pc = .ok (.dup, 1)) (hn : pc + 1 = n) (hc : va.category = 1) (k : VVx cx sx G L X own cc nL ret lev emb n lv (va :: va :: st) S o) : VVx cx sx G L X own cc nL ret lev emb pc lv (va :: st) S o := by
  subst hn
  intro r hr ok H locs ls hP hS hl
  obtain ⟨hx, hb, hml, hown, hts⟩ := ok.1
  exact lv_dup hx hb hd hc (k r hr ok H locs ls hP hS hl)
theorem qr_dup2 {va vb : Value} {n : Nat} (hd : decode cc pc = .ok (.dup2, 1)) (hn : pc + 1 = n) (hc : va.category = 1) (hc2 : vb.category = 1) (k : VVx cx sx G L X own cc nL ret lev emb n lv (va :: vb :: va :: vb :: st) S o) : VVx cx sx G L X own cc nL ret lev emb pc lv (va :: vb :: st) S o := by
  subst hn
  intro r hr ok H locs ls hP hS hl
  obtain ⟨hx, hb, hml, hown, hts⟩ := ok.1
  exact lv_dup2_11 hx hb hd hc hc2 (k r hr ok H locs ls hP hS hl)
theorem qr_pop {va : Value} {n : Nat} (hd : decode cc pc = .ok (.pop, 1)) (hn : pc + 1 = n) (hc : va.category = 1) (k : VVx cx sx G L X own cc nL ret lev emb n lv st S o) : VVx cx sx G L X own cc nL ret lev emb pc lv (va :: st) S o := by
  subst hn
  intro r hr ok H locs ls hP hS hl
  obtain ⟨hx, hb, hml, hown, hts⟩ := ok.1
  exact lv_pop hx hb hd hc (k r hr ok H locs ls hP hS hl)
theorem qr_goto {off : Int} {n : Nat} (hd : decode cc pc = .ok (.goto off, 3)) (hn : (pc : Int) + off = (n : Int)) (k : VVx cx sx G L X own cc nL ret lev emb n lv st S o) : VVx cx sx G L X own cc nL ret lev emb pc lv st S o := by
  intro r hr ok H locs ls hP hS hl
  obtain ⟨hx, hb, hml, hown, hts⟩ := ok.1
  exact lv_goto hx hb hd hn (k r hr ok H locs ls hP hS hl)
theorem qr_if_eq {x : Int32} {a b : Option ρ} {off : Int} {t n : Nat} (hd : decode cc pc = .ok (.ifCond .eq off, 3)) (ht : (pc : Int) + off = (t : Int)) (hn : pc + 3 = n) (kt : VVx cx sx G L X own cc nL ret lev emb t lv st S a) (kf : VVx cx sx G L X own cc nL ret lev emb n lv st S b) : VVx cx sx G L X own cc nL ret lev emb pc lv (.int x :: st) S (if x = 0 then a else b) := by
  subst hn
  intro r hr ok H locs ls hP hS hl
  obtain ⟨hx, hb, hml, hown, hts⟩ := ok.1
  exact lv_if_eq hx hb hd ht (fun h => kt r (by rw [if_pos h] at hr; exact hr) ok H locs ls hP hS hl) (fun h => kf r (by rw [if_neg h] at hr; exact hr) ok H locs ls hP hS hl)
theorem qr_icmp_eq {x y : Int32} {a b : Option ρ} {off : Int} {t n : Nat} (hd : decode cc pc = .ok (.if_icmp .eq off, 3)) (ht : (pc : Int) + off = (t : Int)) (hn : pc + 3 = n) (kt : VVx cx sx G L X own cc nL ret lev emb t lv st S a) (kf : VVx cx sx G L X own cc nL ret lev emb n lv st S b) : VVx cx sx G L X own cc nL ret lev emb pc lv (.int y :: .int x :: st) S (if x = y then a else b) := by
  subst hn
  intro r hr ok H locs ls hP hS hl
  obtain ⟨hx, hb, hml, hown, hts⟩ := ok.1
  exact lv_icmp_eq hx hb hd ht (fun h => kt r (by rw [if_pos h] at hr; exact hr) ok H locs ls hP hS hl) (fun h => kf r (by rw [if_neg h] at hr; exact hr) ok H locs ls hP hS hl)
theorem qr_if_ne {x : Int32} {a b : Option ρ} {off : Int} {t n : Nat} (hd : decode cc pc = .ok (.ifCond .ne off, 3)) (ht : (pc : Int) + off = (t : Int)) (hn : pc + 3 = n) (kt : VVx cx sx G L X own cc nL ret lev emb t lv st S b) (kf : VVx cx sx G L X own cc nL ret lev emb n lv st S a) : VVx cx sx G L X own cc nL ret lev emb pc lv (.int x :: st) S (if x = 0 then a else b) := by
  subst hn
  intro r hr ok H locs ls hP hS hl
  obtain ⟨hx, hb, hml, hown, hts⟩ := ok.1
  exact lv_if_ne hx hb hd ht (fun h => kt r (by rw [if_neg h] at hr; exact hr) ok H locs ls hP hS hl) (fun h => kf r (by rw [if_pos h] at hr; exact hr) ok H locs ls hP hS hl)
theorem qr_icmp_ne {x y : Int32} {a b : Option ρ} {off : Int} {t n : Nat} (hd : decode cc pc = .ok (.if_icmp .ne off, 3)) (ht : (pc : Int) + off = (t : Int)) (hn : pc + 3 = n) (kt : VVx cx sx G L X own cc nL ret lev emb t lv st S b) (kf : VVx cx sx G L X own cc nL ret lev emb n lv st S a) : VVx cx sx G L X own cc nL ret lev emb pc lv (.int y :: .int x :: st) S (if x = y then a else b) := by
  subst hn
  intro r hr ok H locs ls hP hS hl
  obtain ⟨hx, hb, hml, hown, hts⟩ := ok.1
  exact lv_icmp_ne hx hb hd ht (fun h => kt r (by rw [if_neg h] at hr; exact hr) ok H locs ls hP hS hl) (fun h => kf r (by rw [if_pos h] at hr; exact hr) ok H locs ls hP hS hl)
theorem qr_if_lt {x : Int32} {a b : Option ρ} {off : Int} {t n : Nat} (hd : decode cc pc = .ok (.ifCond .lt off, 3)) (ht : (pc : Int) + off = (t : Int)) (hn : pc + 3 = n) (kt : VVx cx sx G L X own cc nL ret lev emb t lv st S a) (kf : VVx cx sx G L X own cc nL ret lev emb n lv st S b) : VVx cx sx G L X own cc nL ret lev emb pc lv (.int x :: st) S (if x < 0 then a else b) := by
  subst hn
  intro r hr ok H locs ls hP hS hl
  obtain ⟨hx, hb, hml, hown, hts⟩ := ok.1
  exact lv_if_lt hx hb hd ht (fun h => kt r (by rw [if_pos h] at hr; exact hr) ok H locs ls hP hS hl) (fun h => kf r (by rw [if_neg h] at hr; exact hr) ok H locs ls hP hS hl)
theorem qr_icmp_lt {x y : Int32} {a b : Option ρ} {off : Int} {t n : Nat} (hd : decode cc pc = .ok (.if_icmp .lt off, 3)) (ht : (pc : Int) + off = (t : Int)) (hn : pc + 3 = n) (kt : VVx cx sx G L X own cc nL ret lev emb t lv st S a) (kf : VVx cx sx G L X own cc nL ret lev emb n lv st S b) : VVx cx sx G L X own cc nL ret lev emb pc lv (.int y :: .int x :: st) S (if x < y then a else b) := by
  subst hn
  intro r hr ok H locs ls hP hS hl
  obtain ⟨hx, hb, hml, hown, hts⟩ := ok.1
  exact lv_icmp_lt hx hb hd ht (fun h => kt r (by rw [if_pos h] at hr; exact hr) ok H locs ls hP hS hl) (fun h => kf r (by rw [if_neg h] at hr; exact hr) ok H locs ls hP hS hl)
theorem qr_if_ge {x : Int32} {a b : Option ρ} {off : Int} {t n : Nat} (hd : decode cc pc = .ok (.ifCond .ge off, 3)) (ht : (pc : Int) + off = (t : Int)) (hn : pc + 3 = n) (kt : VVx cx sx G L X own cc nL ret lev emb t lv st S a) (kf : VVx cx sx G L X own cc nL ret lev emb n lv st S b) : VVx cx sx G L X own cc nL ret lev emb pc lv (.int x :: st) S (if 0 ≤ x then a else b) := by
  subst hn
  intro r hr ok H locs ls hP hS hl
  obtain ⟨hx, hb, hml, hown, hts⟩ := ok.1
  exact lv_if_ge hx hb hd ht (fun h => kt r (by rw [if_pos h] at hr; exact hr) ok H locs ls hP hS hl) (fun h => kf r (by rw [if_neg h] at hr; exact hr) ok H locs ls hP hS hl)
theorem qr_icmp_ge {x y : Int32} {a b : Option ρ} {off : Int} {t n : Nat} (hd : decode cc pc = .ok (.if_icmp .ge off, 3)) (ht : (pc : Int) + off = (t : Int)) (hn : pc + 3 = n) (kt : VVx cx sx G L X own cc nL ret lev emb t lv st S a) (kf : VVx cx sx G L X own cc nL ret lev emb n lv st S b) : VVx cx sx G L X own cc nL ret lev emb pc lv (.int y :: .int x :: st) S (if y ≤ x then a else b) := by
  subst hn
  intro r hr ok H locs ls hP hS hl
  obtain ⟨hx, hb, hml, hown, hts⟩ := ok.1
  exact lv_icmp_ge hx hb hd ht (fun h => kt r (by rw [if_pos h] at hr; exact hr) ok H locs ls hP hS hl) (fun h => kf r (by rw [if_neg h] at hr; exact hr) ok H locs ls hP hS hl)
theorem qr_if_gt {x : Int32} {a b : Option ρ} {off : Int} {t n : Nat} (hd : decode cc pc = .ok (.ifCond .gt off, 3)) (ht : (pc : Int) + off = (t : Int)) (hn : pc + 3 = n) (kt : VVx cx sx G L X own cc nL ret lev emb t lv st S a) (kf : VVx cx sx G L X own cc nL ret lev emb n lv st S b) : VVx cx sx G L X own cc nL ret lev emb pc lv (.int x :: st) S (if 0 < x then a else b) := by
  subst hn
  intro r hr ok H locs ls hP hS hl
  obtain ⟨hx, hb, hml, hown, hts⟩ := ok.1
  exact lv_if_gt hx hb hd ht (fun h => kt r (by rw [if_pos h] at hr; exact hr) ok H locs ls hP hS hl) (fun h => kf r (by rw [if_neg h] at hr; exact hr) ok H locs ls hP hS hl)
theorem qr_icmp_gt {x y : Int32} {a b : Option ρ} {off : Int} {t n : Nat} (hd : decode cc pc = .ok (.if_icmp .gt off, 3)) (ht : (pc : Int) + off = (t : Int)) (hn : pc + 3 = n) (kt : VVx cx sx G L X own cc nL ret lev emb t lv st S a) (kf : VVx cx sx G L X own cc nL ret lev emb n lv st S b) : VVx cx sx G L X own cc nL ret lev emb pc lv (.int y :: .int x :: st) S (if y < x then a else b) := by
  subst hn
  intro r hr ok H locs ls hP hS hl
  obtain ⟨hx, hb, hml, hown, hts⟩ := ok.1
  exact lv_icmp_gt hx hb hd ht (fun h => kt r (by rw [if_pos h] at hr; exact hr) ok H locs ls hP hS hl) (fun h => kf r (by rw [if_neg h] at hr; exact hr) ok H locs ls hP hS hl)
theorem qr_if_le {x : Int32} {a b : Option ρ} {off : Int} {t n : Nat} (hd : decode cc pc = .ok (.ifCond .le off, 3)) (ht : (pc : Int) + off = (t : Int)) (hn : pc + 3 = n) (kt : VVx cx sx G L X own cc nL ret lev emb t lv st S a) (kf : VVx cx sx G L X own cc nL ret lev emb n lv st S b) : VVx cx sx G L X own cc nL ret lev emb pc lv (.int x :: st) S (if x ≤ 0 then a else b) := by
  subst hn
  intro r hr ok H locs ls hP hS hl
  obtain ⟨hx, hb, hml, hown, hts⟩ := ok.1
  exact lv_if_le hx hb hd ht (fun h => kt r (by rw [if_pos h] at hr; exact hr) ok H locs ls hP hS hl) (fun h => kf r (by rw [if_neg h] at hr; exact hr) ok H locs ls hP hS hl)
theorem qr_icmp_le {x y : Int32} {a b : Option ρ} {off : Int} {t n : Nat} (hd : decode cc pc = .ok (.if_icmp .le off, 3)) (ht : (pc : Int) + off = (t : Int)) (hn : pc + 3 = n) (kt : VVx cx sx G L X own cc nL ret lev emb t lv st S a) (kf : VVx cx sx G L X own cc nL ret lev emb n lv st S b) : VVx cx sx G L X own cc nL ret lev emb pc lv (.int y :: .int x :: st) S (if x ≤ y then a else b) := by
  subst hn
  intro r hr ok H locs ls hP hS hl
  obtain ⟨hx, hb, hml, hown, hts⟩ := ok.1
  exact lv_icmp_le hx hb hd ht (fun h => kt r (by rw [if_pos h] at hr; exact hr) ok H locs ls hP hS hl) (fun h => kf r (by rw [if_neg h] at hr; exact hr) ok H locs ls hP hS hl)
theorem qr_iret {x : Int32} {z : ρ} (hd : decode cc pc = .ok (.ireturn, 1)) (hrt : ret = some .int) (he : emb z = (S, some (.int x))) : VVx cx sx G L X own cc nL ret lev emb pc lv [.int x] S (some z) := by
  intro r hr ok H locs ls hP hS hl
  cases hr
  obtain ⟨hx, hb, hml, hown, hts⟩ := ok.1
  rw [he]
  exact W.iret hx hb (by rw [ok.2.1, hrt]) (fun t ht hW => ⟨rfl, by rw [ht]; exact hP, hS.F ht⟩) hS.2.2 hd ok.2.2.1
theorem qr_zret {x : Int32} {z : ρ} (hd : decode cc pc = .ok (.ireturn, 1)) (hrt : ret = some .boolean) (he : emb z = (S, some (.int x))) : VVx cx sx G L X own cc nL ret lev emb pc lv [.int x] S (qv_rz x (some z)) := by
  intro r hr ok H locs ls hP hS hl
  unfold qv_rz at hr
  split at hr
  · next h0 =>
    cases hr
    obtain ⟨hx, hb, hml, hown, hts⟩ := ok.1
    rw [he]
    refine W.zret hx hb (by rw [ok.2.1, hrt]) ?_ (fun t ht hW => ⟨rfl, by rw [ht]; exact hP, hS.F ht⟩) hS.2.2 hd ok.2.2.1
    rcases h0 with rfl | rfl <;> rfl
  · cases hr
theorem qr_zretc {x : Int32} {z : ρ} (hd : decode cc pc = .ok (.ireturn, 1)) (hrt : ret = some .boolean) (hx0 : narrow .boolean (.int x) = .int x) (he : emb z = (S, some (.int x))) : VVx cx sx G L X own cc nL ret lev emb pc lv [.int x] S (some z) := by
  intro r hr ok H locs ls hP hS hl
  cases hr
  obtain ⟨hx, hb, hml, hown, hts⟩ := ok.1
  rw [he]
  exact W.zret hx hb (by rw [ok.2.1, hrt]) hx0 (fun t ht hW => ⟨rfl, by rw [ht]; exact hP, hS.F ht⟩) hS.2.2 hd ok.2.2.1
theorem qr_lret {x : Int64} {z : ρ} (hd : decode cc pc = .ok (.lreturn, 1)) (hrt : ret = some .long) (he : emb z = (S, some (.long x))) : VVx cx sx G L X own cc nL ret lev emb pc lv [.long x] S (some z) := by
  intro r hr ok H locs ls hP hS hl
  cases hr
  obtain ⟨hx, hb, hml, hown, hts⟩ := ok.1
  rw [he]
  exact W.lret hx hb (by rw [ok.2.1, hrt]) (fun t ht hW => ⟨rfl, by rw [ht]; exact hP, hS.F ht⟩) hS.2.2 hd ok.2.2.1
theorem qr_vret {z : ρ} (hd : decode cc pc = .ok (.return_, 1)) (hrt : ret = none) (he : emb z = (S, none)) : VVx cx sx G L X own cc nL ret lev emb pc lv [] S (some z) := by
  intro r hr ok H locs ls hP hS hl
  cases hr
  obtain ⟨hx, hb, hml, hown, hts⟩ := ok.1
  rw [he]
  exact W.vret hx hb (by rw [ok.2.1, hrt]) (fun t ht hW => ⟨rfl, by rw [ht]; exact hP, hS.F ht⟩) hS.2.2 hd ok.2.2.1
theorem qr_none : VVx cx sx G L X own cc nL ret lev emb pc lv st S none := fun r hr => by cases hr
theorem qr_geti (q j : Nat) {ci : Nat} {T : u_T} {N idx : Nat} {fs : List (Option Nat)} {C : String} {n : Nat} (hd : decode cc pc = .ok (.getfield idx, 3)) (hn : pc + 3 = n) (hq : L[q]? = some (.inl (ci, fs))) (hc : vwCl[ci]? = some (C, T, N)) (hin : ∀ w ∈ u_ws C T N, w ∈ gw_tbl) (hk : j < N) (hw : Cond.fieldLink own idx (T j).1 (T j).2.1 (T j).2.2.1 ∈ gw_tbl) (hf : fs[j]? = some none) (k : VVx cx sx G L X own cc nL ret lev emb n lv (.int (S.1 q j) :: st) S o) : VVx cx sx G L X own cc nL ret lev emb pc lv (.ref (G.2.2.1 q) :: st) S o := by
  subst hn
  intro r hr ok H locs ls hP hS hl
  obtain ⟨hx, hb, hml, hown, hts⟩ := ok.1
  refine va_get hx hb hts hin hown ok.2.2.2.1 hP q (qv_at_o hq) hc j hk (hts _ hw) (fun _ h => h) (v := .int (S.1 q j)) ?_ hd (k r hr ok H locs ls hP hS hl)
  rw [List.getElem?_mapIdx, hf]
  rfl
theorem qr_geta (q j b : Nat) {ci : Nat} {T : u_T} {N idx : Nat} {fs : List (Option Nat)} {C : String} {n : Nat} (hd : decode cc pc = .ok (.getfield idx, 3)) (hn : pc + 3 = n) (hq : L[q]? = some (.inl (ci, fs))) (hc : vwCl[ci]? = some (C, T, N)) (hin : ∀ w ∈ u_ws C T N, w ∈ gw_tbl) (hk : j < N) (hw : Cond.fieldLink own idx (T j).1 (T j).2.1 (T j).2.2.1 ∈ gw_tbl) (hf : fs[j]? = some (some b)) (k : VVx cx sx G L X own cc nL ret lev emb n lv (.ref (G.2.2.1 b) :: st) S o) : VVx cx sx G L X own cc nL ret lev emb pc lv (.ref (G.2.2.1 q) :: st) S o := by
  subst hn
  intro r hr ok H locs ls hP hS hl
  obtain ⟨hx, hb, hml, hown, hts⟩ := ok.1
  refine va_get hx hb hts hin hown ok.2.2.2.1 hP q (qv_at_o hq) hc j hk (hts _ hw) (fun _ h => h) (v := .ref (G.2.2.1 b)) ?_ hd (k r hr ok H locs ls hP hS hl)
  rw [List.getElem?_mapIdx, hf]
  rfl
theorem qr_puti (q j : Nat) {ci : Nat} {T : u_T} {N idx : Nat} {fs : List (Option Nat)} {C : String} {ty0 : Nat → FieldType} {x : Int32} {n : Nat} {ko : qv_St → Option ρ} (hd : decode cc pc = .ok (.putfield idx, 3)) (hn : pc + 3 = n) (hq : L[q]? = some (.inl (ci, fs))) (hc : vwCl[ci]? = some (C, T, N)) (hin : ∀ w ∈ u_ws C T N, w ∈ gw_tbl) (hk : j < N) (hw : Cond.fieldLink own idx (T j).1 (T j).2.1 (T j).2.2.1 ∈ gw_tbl) (hf : fs[j]? = some none) (hty : ∀ k, k < N → parseFieldDescriptor (T k).2.2.1 = some (ty0 k)) (hnm : ∀ a, a < N → ∀ b, b < N → a ≠ b → (T a).2.1 ≠ (T b).2.1) (hfin : (T j).2.2.2 = false) (hi : ty0 j = .int) (k : ∀ S : qv_St, VVx cx sx G L X own cc nL ret lev emb n lv st S (ko S)) : VVx cx sx G L X own cc nL ret lev emb pc lv (.int x :: .ref (G.2.2.1 q) :: st) S (qv_b (qv_si S q j x) ko) := by
  subst hn
  intro r hr ok H locs ls hP hS hl
  obtain ⟨hx, hb, hml, hown, hts⟩ := ok.1
  refine va_put hx hb hts hin ty0 hty hnm hown ok.2.2.2.1 hP (qv_D ok.2.2.2.2.1) hS q (qv_at_o hq) hc j hk (hts _ hw) (fun _ h => h) hfin (ty := ty0 j) (v := .int x) (hty j hk) (by rw [hi]; rfl) (by rw [hi]; rfl) ?_ hd (fun H1 locs1 hP1 hD1 hS1 => ?_)
  · rw [List.length_mapIdx]; exact (List.getElem?_eq_some_iff.mp hf).1
  · rw [qv_set_f hq hf] at hP1
    exact k (qv_si S q j x) r hr ok H1 locs1 ls hP1 hS1 hl
theorem qr_putz (q j : Nat) {ci : Nat} {T : u_T} {N idx : Nat} {fs : List (Option Nat)} {C : String} {ty0 : Nat → FieldType} {x : Int32} {n : Nat} {ko : qv_St → Option ρ} (hd : decode cc pc = .ok (.putfield idx, 3)) (hn : pc + 3 = n) (hq : L[q]? = some (.inl (ci, fs))) (hc : vwCl[ci]? = some (C, T, N)) (hin : ∀ w ∈ u_ws C T N, w ∈ gw_tbl) (hk : j < N) (hw : Cond.fieldLink own idx (T j).1 (T j).2.1 (T j).2.2.1 ∈ gw_tbl) (hf : fs[j]? = some none) (hty : ∀ k, k < N → parseFieldDescriptor (T k).2.2.1 = some (ty0 k)) (hnm : ∀ a, a < N → ∀ b, b < N → a ≠ b → (T a).2.1 ≠ (T b).2.1) (hfin : (T j).2.2.2 = false) (hi : ty0 j = .boolean) (hx0 : x = 0 ∨ x = 1) (k : ∀ S : qv_St, VVx cx sx G L X own cc nL ret lev emb n lv st S (ko S)) : VVx cx sx G L X own cc nL ret lev emb pc lv (.int x :: .ref (G.2.2.1 q) :: st) S (qv_b (qv_si S q j x) ko) := by
  subst hn
  intro r hr ok H locs ls hP hS hl
  obtain ⟨hx, hb, hml, hown, hts⟩ := ok.1
  refine va_put hx hb hts hin ty0 hty hnm hown ok.2.2.2.1 hP (qv_D ok.2.2.2.2.1) hS q (qv_at_o hq) hc j hk (hts _ hw) (fun _ h => h) hfin (ty := ty0 j) (v := .int x) (hty j hk) (by rw [hi]; rcases hx0 with rfl | rfl <;> rfl) (by rw [hi]; rcases hx0 with rfl | rfl <;> rfl) ?_ hd (fun H1 locs1 hP1 hD1 hS1 => ?_)
  · rw [List.length_mapIdx]; exact (List.getElem?_eq_some_iff.mp hf).1
  · rw [qv_set_f hq hf] at hP1
    exact k (qv_si S q j x) r hr ok H1 locs1 ls hP1 hS1 hl
theorem qr_iald (q len : Nat) {rs : List Nat} {i : Int32} {n : Nat} (hd : decode cc pc = .ok (.iaload, 1)) (hn : pc + 1 = n) (hq : L[q]? = some (.inr (0, len, rs))) (k : VVx cx sx G L X own cc nL ret lev emb n lv (.int (S.1 q i.toNatClampNeg) :: st) S o) : VVx cx sx G L X own cc nL ret lev emb pc lv (.int i :: .ref (G.2.2.1 q) :: st) S (qv_ck i len o) := by
  subst hn
  intro r hr ok H locs ls hP hS hl
  obtain ⟨hx, hb, hml, hown, hts⟩ := ok.1
  unfold qv_ck at hr
  split at hr
  · next h0 => exact va_iald hx hb ok.2.2.2.1 hP q 0 (qv_at_a hq (by decide)) rfl (qv_in_iff.mp h0) hd (k r hr ok H locs ls hP hS hl)
  · cases hr
theorem qr_bald (q len : Nat) {rs : List Nat} {i : Int32} {n : Nat} (hd : decode cc pc = .ok (.baload, 1)) (hn : pc + 1 = n) (hq : L[q]? = some (.inr (1, len, rs))) (k : VVx cx sx G L X own cc nL ret lev emb n lv (.int (S.1 q i.toNatClampNeg) :: st) S o) : VVx cx sx G L X own cc nL ret lev emb pc lv (.int i :: .ref (G.2.2.1 q) :: st) S (qv_ck i len o) := by
  subst hn
  intro r hr ok H locs ls hP hS hl
  obtain ⟨hx, hb, hml, hown, hts⟩ := ok.1
  unfold qv_ck at hr
  split at hr
  · next h0 => exact va_bald hx hb ok.2.2.2.1 hP q 1 (qv_at_a hq (by decide)) rfl (qv_in_iff.mp h0) hd (k r hr ok H locs ls hP hS hl)
  · cases hr
theorem qr_zald (q len : Nat) {rs : List Nat} {i : Int32} {n : Nat} (hd : decode cc pc = .ok (.baload, 1)) (hn : pc + 1 = n) (hq : L[q]? = some (.inr (2, len, rs))) (k : VVx cx sx G L X own cc nL ret lev emb n lv (.int (S.1 q i.toNatClampNeg) :: st) S o) : VVx cx sx G L X own cc nL ret lev emb pc lv (.int i :: .ref (G.2.2.1 q) :: st) S (qv_ck i len o) := by
  subst hn
  intro r hr ok H locs ls hP hS hl
  obtain ⟨hx, hb, hml, hown, hts⟩ := ok.1
  unfold qv_ck at hr
  split at hr
  · next h0 => exact va_zald hx hb ok.2.2.2.1 hP q 2 (qv_at_a hq (by decide)) rfl (qv_in_iff.mp h0) hd (k r hr ok H locs ls hP hS hl)
  · cases hr
theorem qr_lald (q len : Nat) {rs : List Nat} {i : Int32} {n : Nat} (hd : decode cc pc = .ok (.laload, 1)) (hn : pc + 1 = n) (hq : L[q]? = some (.inr (3, len, rs))) (k : VVx cx sx G L X own cc nL ret lev emb n lv (.long (S.2 q i.toNatClampNeg) :: st) S o) : VVx cx sx G L X own cc nL ret lev emb pc lv (.int i :: .ref (G.2.2.1 q) :: st) S (qv_ck i len o) := by
  subst hn
  intro r hr ok H locs ls hP hS hl
  obtain ⟨hx, hb, hml, hown, hts⟩ := ok.1
  unfold qv_ck at hr
  split at hr
  · next h0 => exact va_lald hx hb ok.2.2.2.1 hP q 3 (qv_at_l hq) rfl (qv_in_iff.mp h0) hd (k r hr ok H locs ls hP hS hl)
  · cases hr
theorem qr_aald (q len : Nat) {rs : List Nat} {i : Int32} {n : Nat} {ko : Nat → Option ρ} (hd : decode cc pc = .ok (.aaload, 1)) (hn : pc + 1 = n) (hq : L[q]? = some (.inr (4, len, rs))) (k : ∀ b : Nat, rs[i.toNatClampNeg]? = some b → VVx cx sx G L X own cc nL ret lev emb n lv (.ref (G.2.2.1 b) :: st) S (ko b)) : VVx cx sx G L X own cc nL ret lev emb pc lv (.int i :: .ref (G.2.2.1 q) :: st) S (qv_ck i len ((rs[i.toNatClampNeg]?).bind ko)) := by
  subst hn
  intro r hr ok H locs ls hP hS hl
  obtain ⟨hx, hb, hml, hown, hts⟩ := ok.1
  unfold qv_ck at hr
  split at hr
  · next h0 =>
    cases hb2 : rs[i.toNatClampNeg]? with
    | none => rw [hb2] at hr; cases hr
    | some b =>
      rw [hb2] at hr
      refine va_aldq hx hb ok.2.2.2.1 hP q 4 (qv_at_r hq) rfl (qv_in_iff.mp h0) hd ?_
      simp only [hb2, Option.map]
      exact k b hb2 r hr ok H locs ls hP hS hl
  · cases hr
theorem qr_iast (q len : Nat) {rs : List Nat} {i x : Int32} {n : Nat} {ko : qv_St → Option ρ} (hd : decode cc pc = .ok (.iastore, 1)) (hn : pc + 1 = n) (hq : L[q]? = some (.inr (0, len, rs))) (k : ∀ S : qv_St, VVx cx sx G L X own cc nL ret lev emb n lv st S (ko S)) : VVx cx sx G L X own cc nL ret lev emb pc lv (.int x :: .int i :: .ref (G.2.2.1 q) :: st) S (qv_ck i len (qv_b (qv_si S q i.toNatClampNeg x) ko)) := by
  subst hn
  intro r hr ok H locs ls hP hS hl
  obtain ⟨hx, hb, hml, hown, hts⟩ := ok.1
  unfold qv_ck at hr
  split at hr
  · next h0 =>
    refine va_iast hx hb ok.2.2.2.1 hP (qv_D ok.2.2.2.2.1) hS q 0 (qv_at_a hq (by decide)) rfl (qv_in_iff.mp h0) hd (fun H1 locs1 hP1 hD1 hS1 => ?_)
    rw [qv_set_a hq (by decide)] at hP1
    exact k _ r hr ok H1 locs1 ls hP1 hS1 hl
  · cases hr
theorem qr_bast (q len : Nat) {rs : List Nat} {i x : Int32} {n : Nat} {ko : qv_St → Option ρ} (hd : decode cc pc = .ok (.bastore, 1)) (hn : pc + 1 = n) (hq : L[q]? = some (.inr (1, len, rs))) (k : ∀ S : qv_St, VVx cx sx G L X own cc nL ret lev emb n lv st S (ko S)) : VVx cx sx G L X own cc nL ret lev emb pc lv (.int x :: .int i :: .ref (G.2.2.1 q) :: st) S (qv_ck i len (qv_b (qv_si S q i.toNatClampNeg (vp_nar .byte x)) ko)) := by
  subst hn
  intro r hr ok H locs ls hP hS hl
  obtain ⟨hx, hb, hml, hown, hts⟩ := ok.1
  unfold qv_ck at hr
  split at hr
  · next h0 =>
    refine va_bast hx hb ok.2.2.2.1 hP (qv_D ok.2.2.2.2.1) hS q 1 (qv_at_a hq (by decide)) rfl (qv_in_iff.mp h0) hd (fun H1 locs1 hP1 hD1 hS1 => ?_)
    rw [qv_set_a hq (by decide)] at hP1
    exact k _ r hr ok H1 locs1 ls hP1 hS1 hl
  · cases hr
theorem qr_zast (q len : Nat) {rs : List Nat} {i x : Int32} {n : Nat} {ko : qv_St → Option ρ} (hd : decode cc pc = .ok (.bastore, 1)) (hn : pc + 1 = n) (hq : L[q]? = some (.inr (2, len, rs))) (k : ∀ S : qv_St, VVx cx sx G L X own cc nL ret lev emb n lv st S (ko S)) : VVx cx sx G L X own cc nL ret lev emb pc lv (.int x :: .int i :: .ref (G.2.2.1 q) :: st) S (qv_ck i len (qv_b (qv_si S q i.toNatClampNeg (vp_nar .boolean x)) ko)) := by
  subst hn
  intro r hr ok H locs ls hP hS hl
  obtain ⟨hx, hb, hml, hown, hts⟩ := ok.1
  unfold qv_ck at hr
  split at hr
  · next h0 =>
    refine va_zast hx hb ok.2.2.2.1 hP (qv_D ok.2.2.2.2.1) hS q 2 (qv_at_a hq (by decide)) rfl (qv_in_iff.mp h0) hd (fun H1 locs1 hP1 hD1 hS1 => ?_)
    rw [qv_set_a hq (by decide)] at hP1
    exact k _ r hr ok H1 locs1 ls hP1 hS1 hl
  · cases hr
theorem qr_last (q len : Nat) {rs : List Nat} {i : Int32} {x : Int64} {n : Nat} {ko : qv_St → Option ρ} (hd : decode cc pc = .ok (.lastore, 1)) (hn : pc + 1 = n) (hq : L[q]? = some (.inr (3, len, rs))) (k : ∀ S : qv_St, VVx cx sx G L X own cc nL ret lev emb n lv st S (ko S)) : VVx cx sx G L X own cc nL ret lev emb pc lv (.long x :: .int i :: .ref (G.2.2.1 q) :: st) S (qv_ck i len (qv_b (qv_sl S q i.toNatClampNeg x) ko)) := by
  subst hn
  intro r hr ok H locs ls hP hS hl
  obtain ⟨hx, hb, hml, hown, hts⟩ := ok.1
  unfold qv_ck at hr
  split at hr
  · next h0 =>
    refine va_last hx hb ok.2.2.2.1 hP (qv_D ok.2.2.2.2.1) hS q 3 (qv_at_l hq) rfl (qv_in_iff.mp h0) hd (fun H1 locs1 hP1 hD1 hS1 => ?_)
    rw [qv_set_l hq] at hP1
    exact k _ r hr ok H1 locs1 ls hP1 hS1 hl
  · cases hr
theorem qr_alen (q len : Nat) {rs : List Nat} {n : Nat} (v : Int32) (hd : decode cc pc = .ok (.arraylength, 1)) (hn : pc + 1 = n) (hq : L[q]? = some (.inr (0, len, rs))) (hv : Int32.ofNat len = v) (k : VVx cx sx G L X own cc nL ret lev emb n lv (.int v :: st) S o) : VVx cx sx G L X own cc nL ret lev emb pc lv (.ref (G.2.2.1 q) :: st) S o := by
  subst hn
  intro r hr ok H locs ls hP hS hl
  obtain ⟨hx, hb, hml, hown, hts⟩ := ok.1
  exact va_alen hx hb ok.2.2.2.1 hP q 0 (qv_at_a hq (by decide)) rfl hv hd (k r hr ok H locs ls hP hS hl)
theorem qr_alenb (q len : Nat) {rs : List Nat} {n : Nat} (v : Int32) (hd : decode cc pc = .ok (.arraylength, 1)) (hn : pc + 1 = n) (hq : L[q]? = some (.inr (1, len, rs))) (hv : Int32.ofNat len = v) (k : VVx cx sx G L X own cc nL ret lev emb n lv (.int v :: st) S o) : VVx cx sx G L X own cc nL ret lev emb pc lv (.ref (G.2.2.1 q) :: st) S o := by
  subst hn
  intro r hr ok H locs ls hP hS hl
  obtain ⟨hx, hb, hml, hown, hts⟩ := ok.1
  exact va_alen hx hb ok.2.2.2.1 hP q 1 (qv_at_a hq (by decide)) rfl hv hd (k r hr ok H locs ls hP hS hl)
theorem qr_alenz (q len : Nat) {rs : List Nat} {n : Nat} (v : Int32) (hd : decode cc pc = .ok (.arraylength, 1)) (hn : pc + 1 = n) (hq : L[q]? = some (.inr (2, len, rs))) (hv : Int32.ofNat len = v) (k : VVx cx sx G L X own cc nL ret lev emb n lv (.int v :: st) S o) : VVx cx sx G L X own cc nL ret lev emb pc lv (.ref (G.2.2.1 q) :: st) S o := by
  subst hn
  intro r hr ok H locs ls hP hS hl
  obtain ⟨hx, hb, hml, hown, hts⟩ := ok.1
  exact va_alen hx hb ok.2.2.2.1 hP q 2 (qv_at_a hq (by decide)) rfl hv hd (k r hr ok H locs ls hP hS hl)
theorem qr_alenl (q len : Nat) {rs : List Nat} {n : Nat} (v : Int32) (hd : decode cc pc = .ok (.arraylength, 1)) (hn : pc + 1 = n) (hq : L[q]? = some (.inr (3, len, rs))) (hv : Int32.ofNat len = v) (k : VVx cx sx G L X own cc nL ret lev emb n lv (.int v :: st) S o) : VVx cx sx G L X own cc nL ret lev emb pc lv (.ref (G.2.2.1 q) :: st) S o := by
  subst hn
  intro r hr ok H locs ls hP hS hl
  obtain ⟨hx, hb, hml, hown, hts⟩ := ok.1
  exact va_alen hx hb ok.2.2.2.1 hP q 3 (qv_at_l hq) rfl hv hd (k r hr ok H locs ls hP hS hl)
end QVR
