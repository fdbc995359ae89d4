/-! THE CLAIM OUT OF ONE WALK OF THE LAW'S BODY. Your part is whole_start (and what it stands on); all else here is the same for every law, but numbers. -/
def R_law : String := "QuietTakeLaw"
def lw_P (b : Addr) (xs : List Int32) (args : Array Value) (s : State) : Prop := args = #[.ref b] ∧ s.IntsAt b xs ∧ xs.length ≤ 3072 ∧ (Jvm.Cond.and given_1 narrow_1).before args s = true
def lw_Q (_ : Array Value) (s : State) (o : Outcome) (t : State) : Prop := o = .returned (some (.int 1)) ∧ Framed s o t [] 600000 7302250
def lw_Z (below : List Frame) (a : Array Value) (s : State) : State → Prop := fun t => ∃ o, t.status = .running ∧ Ended t below o ∧ lw_Q a s o t
/-- the law's own end, with 1 on the stack, nothing written that was there before, its room as the claim has it -/
theorem lw_ret {p : Program} {l : Launch} {e : Env} {s : State} {m : MethodId} {below : List Frame} {meth : Method} {c : Code} {b : Nat} (hx : p.tables.exec = Jvm.exec) (hb : c.code = code) (hr : meth.sig.returnType = ret) (hlocks : meth.locks = false) {pc : Nat} {H : Heap} {ls : Array Slot} (hdg : decode code pc = .ok (.ireturn, 1)) : W p l e room_1 s m #[Value.ref b] below meth c H [] 600000 7302250 (lw_Z below #[Value.ref b] s) (F0 m pc ls [.int 1]) := by
  intro T hT X
  obtain ⟨fs, hret, hrun, hended, hW, hframe⟩ := X.leave (v := some (.int 1)) (hlocks := hlocks) (fun h => by rw [hr] at h; cases h)
  have hmeth' : T.vm.method? m = some meth := X.method'
  refine ⟨T.setFrames fs, ?_, .returned (some (.int 1)), hrun, hended, rfl, ⟨_, rfl⟩, hW, hframe⟩
  jvm_step X.here [X.here.top, hx, hb, hdg, hmeth', hr, ret, narrow_b1]
  (try refine ⟨rfl, ?_⟩); (try refine ⟨rfl, ?_⟩)
  first | (intro acts; rw [hret _ acts rfl rfl rfl]) | rw [hret _ _ rfl rfl rfl]
  exact Steps.refl _
/-- what holds at the law's entry: the machine, the code, the tables' words (any of lw_tbl by 'hts w (by decide +kernel)'), the script of L ints xs at the cell b, what the Statement gives of the start (any of its parts by flat_of_before) -/
def lw_At (p : Program) (s : State) (m : MethodId) (meth : Method) (c : Code) (b L : Nat) (xs : Nat → Int32) : Prop :=
  p.tables.exec = Jvm.exec ∧ c.code = code ∧ meth.sig.returnType = ret ∧ c.maxLocals = 4 ∧ s.vm.findClass R_law = some m.cls ∧ (∀ w ∈ lw_tbl, w.before #[Value.ref b] s = true) ∧ va_X b L xs s s.heap ∧ b < s.heap.size ∧ meth.locks = false ∧ (Jvm.Cond.and given_1 narrow_1).before #[Value.ref b] s = true
theorem qc_inj {B : Nat} {ax : Nat → Nat} {L : List qv_Lc} (hL : L.length ≤ 1000) : qv_inj (qc_ad B ax) L := by
  intro i j hi hj e
  simp only [qc_ad, show i < 1000 by omega, show j < 1000 by omega, if_true] at e
  omega
theorem qc_to_ro {l : Launch} {D : va_G} {cy ax : Nat → Nat} {B : Nat} {L : List qv_Lc} {U : State} (h : qc_ro ax (qv_A (qc_ad B ax) L) U) : qv_ro (l, D, qc_ad B ax, cy) L U := by
  obtain ⟨r1, r2, r3, r4, r5, r6⟩ := h.1
  have k1 : ∀ i, qc_ad B ax (1000 + i) = ax (1000 + i) := fun i => by simp [qc_ad, show ¬ 1000 + i < 1000 by omega]
  have k2 : ∀ i, qc_ad B ax (2000 + i) = ax (2000 + i) := fun i => by simp [qc_ad, show ¬ 2000 + i < 1000 by omega]
  refine ⟨?_, r2, r3, r4, r5, r6⟩
  show vk_S 2 qv_len qv_byt (fun i => qc_ad B ax (1000 + i)) (fun i => qc_ad B ax (2000 + i)) _ _ _
  simp only [k1, k2]
  exact r1
set_option maxRecDepth 20000 in
theorem Lk_len : Lk.length = 270 := rfl
theorem Lm_len : Lm.length = 48 := rfl
/-- VL: the law's own frame, between its two worlds: the class's cells from B1 on, the reference's from B2 on -/
def vl_A (s : State) : Nat → Prop := fun q => s.heap.size ≤ q
def vl_ok (D : va_G) (cy ax : Nat → Nat) (B1 B2 b L : Nat) (xs : Nat → Int32) (X : qv_XT) : Prop :=
  (X.1.tables.exec = Jvm.exec ∧ X.2.2.2.2.2.2.2.code = code ∧ X.2.2.2.2.2.2.2.maxLocals = 4 ∧ X.2.2.1.vm.findClass R_law = some X.2.2.2.1.cls ∧ ∀ w ∈ gw_tbl, w.before X.2.2.2.2.1 X.2.2.1 = true) ∧ X.2.2.2.2.2.2.1.sig.returnType = ret ∧ X.2.2.2.2.2.2.1.locks = false ∧ va_K D vwCl (qv_tys cy) X.2.2.1 ∧ qc_ro ax (vl_A X.2.2.1) X.2.2.1 ∧ va_X b L xs X.2.2.1 X.2.2.1.heap ∧ b < X.2.2.1.heap.size ∧ X.2.2.1.heap.size ≤ B1 ∧ B1 + 270 ≤ B2 ∧ X.2.2.2.2.1 = #[Value.ref b]
def VL (l : Launch) (D : va_G) (cy ax : Nat → Nat) (B1 B2 b L : Nat) (xs : Nat → Int32) (X : qv_XT) (pc : Nat) (lv : List (Nat × Value)) (st : List Value) (S1 S2 : qv_St) : Prop :=
  vl_ok D cy ax B1 B2 b L xs X → ∀ (H : Heap) (locs : List Loc) (ls : Array Slot), va_P D vwCl (qv_wd (qc_ad B1 ax) cy Lk S1) H → va_P D vwCl (qv_wd (qc_ad B2 ax) cy Lm S2) H → va_S (vl_A X.2.2.1) X.2.2.1.heap H locs → lv_has ls 4 lv → W X.1 l X.2.1 room_1 X.2.2.1 X.2.2.2.1 X.2.2.2.2.1 X.2.2.2.2.2.1 X.2.2.2.2.2.2.1 X.2.2.2.2.2.2.2 H locs 600000 7302250 (lw_Z X.2.2.2.2.2.1 X.2.2.2.2.1 X.2.2.1) (F0 X.2.2.2.1 pc ls st)
section VLR
variable {l : Launch} {D : va_G} {cy ax : Nat → Nat} {B1 B2 b L : Nat} {xs : Nat → Int32} {X : qv_XT} {pc : Nat} {lv : List (Nat × Value)} {st : List Value} {S1 S2 : qv_St}
theorem vl_aload_n {q : Fin 4} {x n : Nat} (j : Nat) (hd : decode code pc = .ok (.aload_n q, 1)) (hn : pc + 1 = n) (hj : lv[j]? = some ((q : Nat), .ref x)) (k : VL l D cy ax B1 B2 b L xs X n lv (.ref x :: st) S1 S2) : VL l D cy ax B1 B2 b L xs X pc lv st S1 S2 := by
  subst hn
  intro ok H locs ls h1 h2 hS hl
  exact lv_aload_n ok.1.1 ok.1.2.1 hd rfl (lv_at hl j hj) (k ok H locs ls h1 h2 hS hl)
theorem vl_iload_n {q : Fin 4} {x : Int32} {n : Nat} (j : Nat) (hd : decode code pc = .ok (.iload_n q, 1)) (hn : pc + 1 = n) (hj : lv[j]? = some ((q : Nat), .int x)) (k : VL l D cy ax B1 B2 b L xs X n lv (.int x :: st) S1 S2) : VL l D cy ax B1 B2 b L xs X pc lv st S1 S2 := by
  subst hn
  intro ok H locs ls h1 h2 hS hl
  exact lv_iload_n ok.1.1 ok.1.2.1 hd rfl (lv_at hl j hj) (k ok H locs ls h1 h2 hS hl)
theorem vl_iconst {a : Int} (v : Int32) {n : Nat} (hd : decode code pc = .ok (.iconst a, 1)) (hn : pc + 1 = n) (hv : Int32.ofInt a = v) (k : VL l D cy ax B1 B2 b L xs X n lv (.int v :: st) S1 S2) : VL l D cy ax B1 B2 b L xs X pc lv st S1 S2 := by
  subst hn
  intro ok H locs ls h1 h2 hS hl
  exact lv_iconst ok.1.1 ok.1.2.1 hd hv (k ok H locs ls h1 h2 hS hl)
theorem vl_bipush {a : Int} (v : Int32) {n : Nat} (hd : decode code pc = .ok (.bipush a, 2)) (hn : pc + 2 = n) (hv : (Int8.ofInt a).toInt32 = v) (k : VL l D cy ax B1 B2 b L xs X n lv (.int v :: st) S1 S2) : VL l D cy ax B1 B2 b L xs X pc lv st S1 S2 := by
  subst hn
  intro ok H locs ls h1 h2 hS hl
  exact lv_bipush ok.1.1 ok.1.2.1 hd hv (k ok H locs ls h1 h2 hS hl)
theorem vl_iadd {x y : Int32} {n : Nat} (z : Int32) (hd : decode code pc = .ok (.iadd, 1)) (hn : pc + 1 = n) (hz : x + y = z) (k : VL l D cy ax B1 B2 b L xs X n lv (.int z :: st) S1 S2) : VL l D cy ax B1 B2 b L xs X pc lv (.int y :: .int x :: st) S1 S2 := by
  subst hn
  subst hz
  intro ok H locs ls h1 h2 hS hl
  exact lv_iadd ok.1.1 ok.1.2.1 hd (k ok H locs ls h1 h2 hS hl)
theorem vl_isub {x y : Int32} {n : Nat} (hd : decode code pc = .ok (.isub, 1)) (hn : pc + 1 = n) (k : VL l D cy ax B1 B2 b L xs X n lv (.int (x - y) :: st) S1 S2) : VL l D cy ax B1 B2 b L xs X pc lv (.int y :: .int x :: st) S1 S2 := by
  subst hn
  intro ok H locs ls h1 h2 hS hl
  exact lv_isub ok.1.1 ok.1.2.1 hd (k ok H locs ls h1 h2 hS hl)
theorem vl_iand {x y : Int32} {n : Nat} (hd : decode code pc = .ok (.iand, 1)) (hn : pc + 1 = n) (k : VL l D cy ax B1 B2 b L xs X n lv (.int (x &&& y) :: st) S1 S2) : VL l D cy ax B1 B2 b L xs X pc lv (.int y :: .int x :: st) S1 S2 := by
  subst hn
  intro ok H locs ls h1 h2 hS hl
  exact lv_iand ok.1.1 ok.1.2.1 hd (k ok H locs ls h1 h2 hS hl)
theorem vl_slen {n : Nat} (hd : decode code pc = .ok (.arraylength, 1)) (hn : pc + 1 = n) (k : VL l D cy ax B1 B2 b L xs X n lv (.int (nI L) :: st) S1 S2) : VL l D cy ax B1 B2 b L xs X pc lv (.ref b :: st) S1 S2 := by
  subst hn
  intro ok H locs ls h1 h2 hS hl
  exact va_slen ok.1.1 ok.1.2.1 ok.2.2.2.2.2.1 ok.2.2.2.2.2.2.1 (Nat.not_le.mpr ok.2.2.2.2.2.2.1) hS hd (k ok H locs ls h1 h2 hS hl)
theorem vl_sld {n i : Nat} (hL : L ≤ 3072) (hi : i < L) (hd : decode code pc = .ok (.iaload, 1)) (hn : pc + 1 = n) (k : VL l D cy ax B1 B2 b L xs X n lv (.int (xs i) :: st) S1 S2) : VL l D cy ax B1 B2 b L xs X pc lv (.int (nI i) :: .ref b :: st) S1 S2 := by
  subst hn
  intro ok H locs ls h1 h2 hS hl
  have h9 := va_sld (i := nI i) ok.1.1 ok.1.2.1 ok.2.2.2.2.2.1 ok.2.2.2.2.2.2.1 (Nat.not_le.mpr ok.2.2.2.2.2.2.1) hS (vp_in_nI hi (by omega)) hd (by rw [nI_clamp (by omega)]; exact k ok H locs ls h1 h2 hS hl)
  exact h9
theorem vl_icmp_gt {x y : Int32} {off : Int} {t n : Nat} (hd : decode code pc = .ok (.if_icmp .gt off, 3)) (ht : (pc : Int) + off = (t : Int)) (hn : pc + 3 = n) (kt : y < x → VL l D cy ax B1 B2 b L xs X t lv st S1 S2) (kf : ¬ y < x → VL l D cy ax B1 B2 b L xs X n lv st S1 S2) : VL l D cy ax B1 B2 b L xs X pc lv (.int y :: .int x :: st) S1 S2 := by
  subst hn
  intro ok H locs ls h1 h2 hS hl
  exact lv_icmp_gt ok.1.1 ok.1.2.1 hd ht (fun h => kt h ok H locs ls h1 h2 hS hl) (fun h => kf h ok H locs ls h1 h2 hS hl)
theorem vl_same {x : Int32} {off : Int} {t : Nat} (hd : decode code pc = .ok (.if_icmp .eq off, 3)) (ht : (pc : Int) + off = (t : Int)) (kt : VL l D cy ax B1 B2 b L xs X t lv st S1 S2) : VL l D cy ax B1 B2 b L xs X pc lv (.int x :: .int x :: st) S1 S2 := by
  intro ok H locs ls h1 h2 hS hl
  exact lv_icmp_eq ok.1.1 ok.1.2.1 hd ht (fun h => kt ok H locs ls h1 h2 hS hl) (fun h => absurd rfl h)
theorem vl_goto {off : Int} {n : Nat} (hd : decode code pc = .ok (.goto off, 3)) (hn : (pc : Int) + off = (n : Int)) (k : VL l D cy ax B1 B2 b L xs X n lv st S1 S2) : VL l D cy ax B1 B2 b L xs X pc lv st S1 S2 := by
  intro ok H locs ls h1 h2 hS hl
  exact lv_goto ok.1.1 ok.1.2.1 hd hn (k ok H locs ls h1 h2 hS hl)
theorem vl_iinc {i : Nat} {a : Int} {x v : Int32} {n : Nat} {lv2 : List (Nat × Value)} (j : Nat) (ks : List Nat) (hd : decode code pc = .ok (.iinc i a, 3)) (hn : pc + 3 = n) (hj : lv[j]? = some (i, .int x)) (hv : x + Int32.ofInt a = v) (hi : i < 4) (hs : lv_pick ((i, Value.int v) :: lv.filter (fun q => !(q.1 == i) && !(q.1 + 1 == i && q.2.category == 2))) ks = lv2) (k : VL l D cy ax B1 B2 b L xs X n lv2 st S1 S2) : VL l D cy ax B1 B2 b L xs X pc lv st S1 S2 := by
  subst hn
  intro ok H locs ls h1 h2 hS hl
  exact lv_iinc ok.1.1 ok.1.2.1 hd hl hj hv hi rfl (fun ls2 hl2 => k ok H locs ls2 h1 h2 hS (lv_sub hl2 ks hs))
theorem vl_end {n : Nat} (hd0 : decode code pc = .ok (.iconst 1, 1)) (hn : pc + 1 = n) (hd : decode code n = .ok (.ireturn, 1)) : VL l D cy ax B1 B2 b L xs X pc lv [] S1 S2 := by
  subst hn
  intro ok H locs ls h1 h2 hS hl
  obtain ⟨p, e, s, m, args, below, meth, c⟩ := X
  obtain rfl : args = #[Value.ref b] := ok.2.2.2.2.2.2.2.2.2
  refine lv_iconst (v := 1) ok.1.1 ok.1.2.1 hd0 (by decide) ?_
  refine va_forget (fun q hq => hS.2.2 q hq) ?_
  exact lw_ret ok.1.1 ok.1.2.1 ok.2.1 ok.2.2.1 hd
theorem vl_tab {x : Int32} {dflt lo hi : Int} {offs : Array Int} {len : Nat} {off : Int} {tgt : Nat} (hd : decode code pc = .ok (.tableswitch dflt lo hi offs, len)) (h1 : ¬ x.toInt < lo) (h2 : ¬ hi < x.toInt) (ho : offs[(x.toInt - lo).toNat]? = some off) (ht : (pc : Int) + off = (tgt : Int)) (k : VL l D cy ax B1 B2 b L xs X tgt lv st S1 S2) : VL l D cy ax B1 B2 b L xs X pc lv (.int x :: st) S1 S2 := by
  intro ok H locs ls g1 g2 hS hl
  exact lv_tableIn ok.1.1 ok.1.2.1 hd h1 h2 ho ht (k ok H locs ls g1 g2 hS hl)
theorem vl_out {x : Int32} {dflt lo hi : Int} {offs : Array Int} {len : Nat} {tgt : Nat} (hd : decode code pc = .ok (.tableswitch dflt lo hi offs, len)) (h : x.toInt < lo ∨ hi < x.toInt) (ht : (pc : Int) + dflt = (tgt : Int)) (k : VL l D cy ax B1 B2 b L xs X tgt lv st S1 S2) : VL l D cy ax B1 B2 b L xs X pc lv (.int x :: st) S1 S2 := by
  intro ok H locs ls g1 g2 hS hl
  exact lv_tableOut ok.1.1 ok.1.2.1 hd h ht (k ok H locs ls g1 g2 hS hl)
theorem vl_kept {B : Nat} {L0 : List qv_Lc} {S : qv_St} {H H1 : Heap} {P : Nat → Prop} (hL : L0.length ≤ 1000) (hP : va_P D vwCl (qv_wd (qc_ad B ax) cy L0 S) H) (hk : ∀ q, q < H.size → ¬ P q → H1[q]? = H[q]?) (hd : ∀ q, B ≤ q → q < B + L0.length → ¬ P q) : va_P D vwCl (qv_wd (qc_ad B ax) cy L0 S) H1 := by
  refine hP.kept (fun k z hz => ?_)
  obtain ⟨h1, h2⟩ := qv_at_inv hz
  have h3 := (hP k z hz).lt
  have h4 : z.1 = B + k := by rw [h2]; simp [qc_ad, show k < 1000 by omega]
  exact hk _ h3 (hd _ (by omega) (by omega))
theorem vl_AX {B : Nat} {L0 : List qv_Lc} {q : Nat} (hL : L0.length ≤ 1000) (h : qv_A (qc_ad B ax) L0 q) : B ≤ q ∧ q < B + L0.length := by
  obtain ⟨i, hi, e⟩ := h
  rw [e]
  simp only [qc_ad, show i < 1000 by omega, if_true]
  omega
theorem vl_c1 {y : MethodName} {b1 : ByteArray} {maxL : Nat} {ret2 : Option FieldType} {lev2 idx na n : Nat} {ρ2 : Type} {emb2 : ρ2 → qv_St × Option Value} {of : Option ρ2} {st0 : List Value} (r2 : ρ2) (As : List Value) {T : u_T} {N : Nat} (hd : decode code pc = .ok (.invokevirtual idx, 3)) (hn : pc + 3 = n) (cv : qv_cv R_law idx y b1 maxL ret2 na) (hna : As.length = na) (hst : st0 = As.reverse ++ .ref (qc_ad B1 ax 0) :: st) (hsum : (st.map fun v => v.category).sum ≤ 8) (hlev : Nat.ble (lev2 + 1) 2048 = true) (hmax : Nat.ble (8 + (maxL + 11) + 64 * lev2) 84000 = true) (hcl : vwCl[11]? = some (y.cls, T, N)) (ho : of = some r2) (hc : ∀ r2 : ρ2, of = some r2 → Cn (l, D, qc_ad B1 ax, cy) Lk y b1 maxL ret2 lev2 (.ref (qc_ad B1 ax 0) :: As) S1 (emb2 r2))
    (k : VL l D cy ax B1 B2 b L xs X n lv ((emb2 r2).2.toList ++ st) (emb2 r2).1 S2) : VL l D cy ax B1 B2 b L xs X pc lv st0 S1 S2 := by
  subst hn
  subst hst
  intro ok H locs ls h1 h2 hS hl
  obtain ⟨hx, hb, hml, hown, hts⟩ := ok.1
  have hB := ok.2.2.2.2.2.2.2.1
  have hB2 := ok.2.2.2.2.2.2.2.2.1
  have hsub : ∀ q, qv_A (qc_ad B1 ax) Lk q → vl_A X.2.2.1 q := fun q h => by
    have h9 := (vl_AX (by rw [Lk_len]; decide) h).1
    show X.2.2.1.heap.size ≤ q
    omega
  have run := va_runV (l := l) (b := qc_ad B1 ax 0) (As := As) (rest := st) (g := F0 X.2.2.2.1 pc ls (As.reverse ++ .ref (qc_ad B1 ax 0) :: st)) (below := X.2.2.2.2.2.1) (meth := X.2.2.2.2.2.2.1) (e := X.2.1) (R := room_1) (H := H) (locs := locs) (cells := 600000) (slots := 7302250) ⟨hx, hb, hml, hown, hts⟩ (hc r2 ho) (C := y.cls) ⟨callB_of na hts (gw_ws cv.1.2.2.2.2) rfl rfl rfl (hts _ cv.1.2.2.2.1) (hts _ cv.1.1) cv.2 ⟨Nat.le_of_ble_eq_true hlev, Nat.le_of_ble_eq_true hmax⟩, hts _ cv.1.2.1, hts _ cv.1.2.2.1⟩ ⟨qv_blind, va_recv ok.2.2.2.1 h1 hcl (qv_at_o lkO_0), fun U hU hW => ⟨rfl, qc_inj (by rw [Lk_len]; decide), by rw [hU]; exact h1, va_K.moved hW.alike ok.2.2.2.1, qc_to_ro (qc_ro_go ok.2.2.2.2.1 hS hU hW hsub)⟩⟩ rfl hna hl.1 rfl (lv_room hsum) hd ⟨Nat.le_refl _, Nat.le_refl _⟩
  intro T hT XX
  obtain ⟨v, st₀, t, T', Lx, g0, X', hL, e1, e2, ⟨hv, hP', hz, hk⟩, stp⟩ := run T hT XX
  cases hv
  rw [g0] at hz hk
  obtain ⟨t2, a1, b1⟩ := k ok T'.heap (locs ++ Lx) ls (by rw [e1]; exact hP') (vl_kept (by rw [Lm_len]; decide) h2 (fun q g1 g2 => by rw [e1]; exact hk q g1 g2) (fun q g1 _ z => by have := (vl_AX (by rw [Lk_len]; decide) z).2; rw [Lk_len] at this; omega)) ⟨Nat.le_trans hS.1 (by rw [e1]; exact hz), fun q g1 g2 => by rw [e1, hk q (Nat.lt_of_lt_of_le g1 hS.1) (fun z => g2 (hsub q z))]; exact hS.2.1 q g1 g2, fun q hq => by
      rcases List.mem_append.mp hq with h | h
      · exact hS.2.2 q h
      · exact hsub _ (hL q h)⟩ hl T' rfl X'
  exact ⟨t2, stp t2 a1, b1⟩
theorem vl_c2 {y : MethodName} {b1 : ByteArray} {maxL : Nat} {ret2 : Option FieldType} {lev2 idx na n : Nat} {ρ2 : Type} {emb2 : ρ2 → qv_St × Option Value} {of : Option ρ2} {st0 : List Value} (r2 : ρ2) (As : List Value) {T : u_T} {N : Nat} (hd : decode code pc = .ok (.invokevirtual idx, 3)) (hn : pc + 3 = n) (cv : qv_cv R_law idx y b1 maxL ret2 na) (hna : As.length = na) (hst : st0 = As.reverse ++ .ref (qc_ad B2 ax 0) :: st) (hsum : (st.map fun v => v.category).sum ≤ 8) (hlev : Nat.ble (lev2 + 1) 2048 = true) (hmax : Nat.ble (8 + (maxL + 11) + 64 * lev2) 84000 = true) (hcl : vwCl[12]? = some (y.cls, T, N)) (ho : of = some r2) (hc : ∀ r2 : ρ2, of = some r2 → Cn (l, D, qc_ad B2 ax, cy) Lm y b1 maxL ret2 lev2 (.ref (qc_ad B2 ax 0) :: As) S2 (emb2 r2))
    (k : VL l D cy ax B1 B2 b L xs X n lv ((emb2 r2).2.toList ++ st) S1 (emb2 r2).1) : VL l D cy ax B1 B2 b L xs X pc lv st0 S1 S2 := by
  subst hn
  subst hst
  intro ok H locs ls h1 h2 hS hl
  obtain ⟨hx, hb, hml, hown, hts⟩ := ok.1
  have hB := ok.2.2.2.2.2.2.2.1
  have hB2 := ok.2.2.2.2.2.2.2.2.1
  have hsub : ∀ q, qv_A (qc_ad B2 ax) Lm q → vl_A X.2.2.1 q := fun q h => by
    have h9 := (vl_AX (by rw [Lm_len]; decide) h).1
    show X.2.2.1.heap.size ≤ q
    omega
  have run := va_runV (l := l) (b := qc_ad B2 ax 0) (As := As) (rest := st) (g := F0 X.2.2.2.1 pc ls (As.reverse ++ .ref (qc_ad B2 ax 0) :: st)) (below := X.2.2.2.2.2.1) (meth := X.2.2.2.2.2.2.1) (e := X.2.1) (R := room_1) (H := H) (locs := locs) (cells := 600000) (slots := 7302250) ⟨hx, hb, hml, hown, hts⟩ (hc r2 ho) (C := y.cls) ⟨callB_of na hts (gw_ws cv.1.2.2.2.2) rfl rfl rfl (hts _ cv.1.2.2.2.1) (hts _ cv.1.1) cv.2 ⟨Nat.le_of_ble_eq_true hlev, Nat.le_of_ble_eq_true hmax⟩, hts _ cv.1.2.1, hts _ cv.1.2.2.1⟩ ⟨qv_blind, va_recv ok.2.2.2.1 h2 hcl (qv_at_o lmO), fun U hU hW => ⟨rfl, qc_inj (by rw [Lm_len]; decide), by rw [hU]; exact h2, va_K.moved hW.alike ok.2.2.2.1, qc_to_ro (qc_ro_go ok.2.2.2.2.1 hS hU hW hsub)⟩⟩ rfl hna hl.1 rfl (lv_room hsum) hd ⟨Nat.le_refl _, Nat.le_refl _⟩
  intro T hT XX
  obtain ⟨v, st₀, t, T', Lx, g0, X', hL, e1, e2, ⟨hv, hP', hz, hk⟩, stp⟩ := run T hT XX
  cases hv
  rw [g0] at hz hk
  obtain ⟨t2, a1, b1⟩ := k ok T'.heap (locs ++ Lx) ls (vl_kept (by rw [Lk_len]; decide) h1 (fun q g1 g2 => by rw [e1]; exact hk q g1 g2) (fun q _ g1 z => by have := (vl_AX (by rw [Lm_len]; decide) z).1; rw [Lk_len] at g1; omega)) (by rw [e1]; exact hP') ⟨Nat.le_trans hS.1 (by rw [e1]; exact hz), fun q g1 g2 => by rw [e1, hk q (Nat.lt_of_lt_of_le g1 hS.1) (fun z => g2 (hsub q z))]; exact hS.2.1 q g1 g2, fun q hq => by
      rcases List.mem_append.mp hq with h | h
      · exact hS.2.2 q h
      · exact hsub _ (hL q h)⟩ hl T' rfl X'
  exact ⟨t2, stp t2 a1, b1⟩
end VLR
