def tbL_s : List (Nat × Instr × Nat) := [(0, .new 7, 3), (3, .dup, 1), (4, .invokespecial 9, 3), (7, .astore_n 1, 1), (8, .new 10, 3), (11, .dup, 1), (12, .invokespecial 12, 3), (15, .astore_n 2, 1), (16, .iconst 0, 1), (17, .istore_n 3, 1)]
set_option maxRecDepth 20000 in
theorem daL_s : ∀ x ∈ tbL_s, decode code x.1 = .ok x.2 := by decide +kernel
theorem dkL_s {i pc n : Nat} {ins : Instr} (h : tbL_s[i]? = some (pc, ins, n)) : decode code pc = .ok (ins, n) := daL_s (pc, ins, n) (List.mem_of_getElem? h)
theorem scl_11 : Cond.classLink R_law 7 RX11 ∈ gw_tbl := gw_ix 118 (by decide +kernel)
theorem sin_11 : Cond.instantiable RX11 12 ∈ gw_tbl := gw_ix 119 (by decide +kernel)
theorem sini_11 : Cond.initialized RX11 ∈ gw_tbl := gw_ix 96 (by decide +kernel)
set_option maxRecDepth 100000 in
theorem scv_11 : (Cond.methodLink R_law 9 yX11_init ∈ gw_tbl ∧ Cond.instanceMethod yX11_init ∈ gw_tbl ∧ Cond.initialized yX11_init.cls ∈ gw_tbl ∧ Cond.code yX11_init cX11_init 2 none ∈ gw_tbl) ∧ (yX11_init.cls ≠ "java/lang/invoke/MethodHandle" ∧ yX11_init.cls ≠ "java/lang/invoke/VarHandle" ∧ (parseMethodDescriptor yX11_init.desc).map (fun d => d.parameters.length) = some 0) := ⟨⟨gw_ix 120 (by decide +kernel), gw_ix 121 (by decide +kernel), gw_ix 96 (by decide +kernel), gw_of (List.mem_of_getElem? (i := 122) rfl) rfl⟩, by decide +kernel⟩
set_option maxRecDepth 20000 in
theorem sdf_11 : ∀ j, j < 12 → defaultValue (tyX11 j) = vp_V [.null, .null, .null, .null, .null, .null, .null, .int 0, .null, .null, .null, .null] j := by
  intro j hj
  rcases (show j = 0 ∨ j = 1 ∨ j = 2 ∨ j = 3 ∨ j = 4 ∨ j = 5 ∨ j = 6 ∨ j = 7 ∨ j = 8 ∨ j = 9 ∨ j = 10 ∨ j = 11 by omega) with rfl | rfl | rfl | rfl | rfl | rfl | rfl | rfl | rfl | rfl | rfl | rfl <;> rfl
theorem scl_12 : Cond.classLink R_law 10 RX12 ∈ gw_tbl := gw_ix 1206 (by decide +kernel)
theorem sin_12 : Cond.instantiable RX12 71 ∈ gw_tbl := gw_ix 1207 (by decide +kernel)
theorem sini_12 : Cond.initialized RX12 ∈ gw_tbl := gw_ix 109 (by decide +kernel)
set_option maxRecDepth 100000 in
theorem scv_12 : (Cond.methodLink R_law 12 yX12_init ∈ gw_tbl ∧ Cond.instanceMethod yX12_init ∈ gw_tbl ∧ Cond.initialized yX12_init.cls ∈ gw_tbl ∧ Cond.code yX12_init cX12_init 1 none ∈ gw_tbl) ∧ (yX12_init.cls ≠ "java/lang/invoke/MethodHandle" ∧ yX12_init.cls ≠ "java/lang/invoke/VarHandle" ∧ (parseMethodDescriptor yX12_init.desc).map (fun d => d.parameters.length) = some 0) := ⟨⟨gw_ix 1208 (by decide +kernel), gw_ix 1209 (by decide +kernel), gw_ix 109 (by decide +kernel), gw_of (List.mem_of_getElem? (i := 1210) rfl) rfl⟩, by decide +kernel⟩
set_option maxRecDepth 20000 in
theorem sdf_12 : ∀ j, j < 71 → defaultValue (tyX12 j) = vp_V [.int 0, .null, .int 0, .null, .int 0, .null, .null, .null, .null, .null, .int 0, .int 0, .int 0, .int 0, .int 0, .int 0, .int 0, .int 0, .int 0, .int 0, .int 0, .null, .null, .null, .null, .null, .null, .null, .null, .null, .null, .null, .null, .null, .null, .null, .null, .null, .null, .int 0, .null, .null, .null, .null, .null, .int 0, .null, .null, .null, .int 0, .null, .null, .int 0, .null, .null, .int 0, .null, .int 0, .null, .null, .int 0, .null, .int 0, .int 0, .null, .int 0, .null, .null, .null, .null, .null] j := by
  intro j hj
  rcases (show j = 0 ∨ j = 1 ∨ j = 2 ∨ j = 3 ∨ j = 4 ∨ j = 5 ∨ j = 6 ∨ j = 7 ∨ j = 8 ∨ j = 9 ∨ j = 10 ∨ j = 11 ∨ j = 12 ∨ j = 13 ∨ j = 14 ∨ j = 15 ∨ j = 16 ∨ j = 17 ∨ j = 18 ∨ j = 19 ∨ j = 20 ∨ j = 21 ∨ j = 22 ∨ j = 23 ∨ j = 24 ∨ j = 25 ∨ j = 26 ∨ j = 27 ∨ j = 28 ∨ j = 29 ∨ j = 30 ∨ j = 31 ∨ j = 32 ∨ j = 33 ∨ j = 34 ∨ j = 35 ∨ j = 36 ∨ j = 37 ∨ j = 38 ∨ j = 39 ∨ j = 40 ∨ j = 41 ∨ j = 42 ∨ j = 43 ∨ j = 44 ∨ j = 45 ∨ j = 46 ∨ j = 47 ∨ j = 48 ∨ j = 49 ∨ j = 50 ∨ j = 51 ∨ j = 52 ∨ j = 53 ∨ j = 54 ∨ j = 55 ∨ j = 56 ∨ j = 57 ∨ j = 58 ∨ j = 59 ∨ j = 60 ∨ j = 61 ∨ j = 62 ∨ j = 63 ∨ j = 64 ∨ j = 65 ∨ j = 66 ∨ j = 67 ∨ j = 68 ∨ j = 69 ∨ j = 70 by omega) with rfl | rfl | rfl | rfl | rfl | rfl | rfl | rfl | rfl | rfl | rfl | rfl | rfl | rfl | rfl | rfl | rfl | rfl | rfl | rfl | rfl | rfl | rfl | rfl | rfl | rfl | rfl | rfl | rfl | rfl | rfl | rfl | rfl | rfl | rfl | rfl | rfl | rfl | rfl | rfl | rfl | rfl | rfl | rfl | rfl | rfl | rfl | rfl | rfl | rfl | rfl | rfl | rfl | rfl | rfl | rfl | rfl | rfl | rfl | rfl | rfl | rfl | rfl | rfl | rfl | rfl | rfl | rfl | rfl | rfl | rfl <;> rfl
theorem vs_new {p : Program} {l : Launch} {e : Env} {s : State} {m : MethodId} {args : Array Value} {below : List Frame} {meth : Method} {c : Code} {H : Heap} {locs : List Loc} {c0 s0 : Nat} {Q : State → Prop} {D : va_G} {cy ax : Nat → Nat} {pc : Nat} {ls : Array Slot} {rest : List Value} {ci N idx idx2 n3 n4 n7 cN2 sN2 lev2 maxL : Nat} {C : String} {T : u_T} {y : MethodName} {b1 : ByteArray} {L : List qv_Lc} {S : qv_St} (ty : Nat → FieldType) (fs : List Value) (hx : p.tables.exec = Jvm.exec) (hb : c.code = code) (hml : c.maxLocals = 4) (hown : s.vm.findClass R_law = some m.cls) (hts : ∀ w ∈ gw_tbl, w.before args s = true) (hK : va_K D vwCl (qv_tys cy) s) (hro : qc_ro ax (vl_A s) s) (hS : va_S (vl_A s) s.heap H locs) (hls : ls.size = 4) (hL : L.length ≤ 1000)
    (hd : decode code pc = .ok (.new idx, 3)) (hn3 : pc + 3 = n3) (hd2 : decode code n3 = .ok (.dup, 1)) (hn4 : n3 + 1 = n4) (hd3 : decode code n4 = .ok (.invokespecial idx2, 3)) (hn7 : n4 + 3 = n7)
    (hcl : vwCl[ci]? = some (C, T, N)) (hin : ∀ w ∈ u_ws C T N, w ∈ gw_tbl) (hty : ∀ k, k < N → parseFieldDescriptor (T k).2.2.1 = some (ty k)) (hfs : ∀ j, j < N → defaultValue (ty j) = vp_V fs j) (hw1 : Cond.classLink R_law idx C ∈ gw_tbl) (hw2 : Cond.instantiable C N ∈ gw_tbl) (hw3 : Cond.initialized C ∈ gw_tbl) (hi : y.name = "<init>") (cv : (Cond.methodLink R_law idx2 y ∈ gw_tbl ∧ Cond.instanceMethod y ∈ gw_tbl ∧ Cond.initialized y.cls ∈ gw_tbl ∧ Cond.code y b1 maxL none ∈ gw_tbl) ∧ (y.cls ≠ "java/lang/invoke/MethodHandle" ∧ y.cls ≠ "java/lang/invoke/VarHandle" ∧ (parseMethodDescriptor y.desc).map (fun d => d.parameters.length) = some 0))
    (hc1 : c0 + 1 + cN2 ≤ 600000) (hs1 : s0 + N + sN2 ≤ 7302250) (hlev : lev2 + 1 ≤ 2048 ∧ 8 + (maxL + 11) + 64 * lev2 ≤ 84000) (hsum : (rest.map fun v => v.category).sum ≤ 7) (hKc : ∀ B : Nat, Kc l D cy ax y b1 maxL lev2 cN2 sN2 [.ref B] B [.inr (ci, fs)] (qc_es (qc_ad B ax) cy L S))
    (k : ∀ (H2 : Heap) (locs2 : List Loc), va_P D vwCl (qv_wd (qc_ad H.size ax) cy L S) H2 → H2.size = H.size + L.length → (∀ q, q < H.size → H2[q]? = H[q]?) → va_S (vl_A s) s.heap H2 locs2 → W p l e room_1 s m args below meth c H2 locs2 (c0 + 1 + cN2) (s0 + N + sN2) Q (F0 m n7 ls (.ref H.size :: rest))) : W p l e room_1 s m args below meth c H locs c0 s0 Q (F0 m pc ls rest) := by
  subst hn3
  subst hn4
  subst hn7
  have hKn := hK.1 ci _ hcl
  have hsz : s.heap.size ≤ H.size := hS.1
  refine W.newcK hx hb hown (hts _ hw1) (hts _ hw2) (hts _ hw3) rfl hd (by show c0 + 1 ≤ 600000; omega) (by show s0 + N ≤ 7302250; omega) hKn.2.1 rfl fun H1 kC hkC e1 z1 o1 => ?_
  have hP1 : va_P D vwCl (qc_wd H.size [.inr (ci, fs)]) H1 := by
    have h9 := qc_push (D := D) (B := H.size) (es := []) (e := .inr (ci, fs)) (H := H) (H1 := H1) (fun k z hk => by simp [qc_wd] at hk) rfl o1 ⟨_, hcl, (u_born ty hts hin hKn hkC e1 hty).to hfs⟩
    exact h9
  have hS1 : va_S (vl_A s) s.heap H1 locs := ⟨by omega, fun q h1 h2 => (o1 q (by omega)).trans (hS.2.1 q h1 h2), hS.2.2⟩
  refine lv_dup hx hb hd2 rfl ?_
  have run := va_runI (l := l) (b := H.size) (As := []) (rest := .ref H.size :: rest) (g := F0 m (pc + 3 + 1) ls (.ref H.size :: .ref H.size :: rest)) (below := below) (meth := meth) (e := e) (R := room_1) (H := H1) (locs := locs) (cells := c0 + 1) (slots := s0 + N) (n := 0) ⟨hx, hb, hml, hown, hts⟩ (hKc H.size) ⟨callB_of 0 hts (gw_ws cv.1.2.2.2) rfl rfl rfl (hts _ cv.1.2.2.1) (hts _ cv.1.1) cv.2 hlev, hi, hts _ cv.1.2.1⟩ ⟨fun a U g mk q => by
      obtain ⟨q0, q1, q2, q3, q4⟩ := q
      exact ⟨q0, q1, q2, va_K.moved (u := U) (U := U.calling g mk a) (Vm.Alike.refl U.vm) q3, qc_ro_blind q4⟩, fun U hU hW => ⟨rfl, by rw [hU, z1]; rfl, by rw [hU]; exact hP1, va_K.moved hW.alike hK, qc_ro_go hro hS1 hU hW (fun q h => by
      have : H.size ≤ q := h
      show s.heap.size ≤ q
      omega)⟩⟩ rfl rfl hls rfl (lv_room (by show 1 + (rest.map fun v => v.category).sum ≤ 8; omega)) hd3 ⟨hc1, hs1⟩
  intro T hT XX
  obtain ⟨v, st₀, t, T', Lx, g0, X', hLx, f1, f2, ⟨hv, hz2, hP2, hzz, hk⟩, stp⟩ := run T hT XX
  cases hv
  rw [g0] at hzz hk
  have hL2 : (qc_es (qc_ad H.size ax) cy L S).length = L.length := by simp [qc_es]
  obtain ⟨t2, a1, b2⟩ := k T'.heap (locs ++ Lx) (by rw [f1, ← qc_wd_es hL]; exact hP2) (by rw [f1, hz2, hL2]) (fun q hq => by rw [f1, hk q (by omega) (by show ¬ H.size ≤ q; omega)]; exact o1 q hq) ⟨Nat.le_trans hS1.1 (by rw [f1]; exact hzz), fun q h1 h2 => by
      have h3 : q < H.size := by have : ¬ s.heap.size ≤ q := h2; omega
      rw [f1, hk q (by omega) (by show ¬ H.size ≤ q; omega)]
      exact hS1.2.1 q h1 h2, fun q hq => by
      rcases List.mem_append.mp hq with h | h
      · exact hS1.2.2 q h
      · exact Nat.le_trans hsz (hLx q h)⟩ T' rfl X'
  exact ⟨t2, stp t2 a1, b2⟩
def st_tm (i : Nat) : Term := if i = 0 then .string "QuietTake$Tokens" 66 else .string "QuietTake$Tokens" 77
set_option maxRecDepth 100000 in
theorem st_e0 : ∀ k, k < 9 → (flatC (Jvm.Cond.and given_1 narrow_1))[193 + k]? = some (Cond.eq (.elem (.field (.string "QuietTake$Tokens" 66) "java/lang/String" "value" "[B") (.int (Int32.ofNat (0 + k)))) (.int (qv_b0.getD (0 + k) 0))) := by decide +kernel
set_option maxRecDepth 100000 in
theorem st_e1_0 : ∀ k, k < 16 → (flatC (Jvm.Cond.and given_1 narrow_1))[13 + k]? = some (Cond.eq (.elem (.field (.string "QuietTake$Tokens" 77) "java/lang/String" "value" "[B") (.int (Int32.ofNat (0 + k)))) (.int (qv_b1.getD (0 + k) 0))) := by decide +kernel
set_option maxRecDepth 100000 in
theorem st_e1_1 : ∀ k, k < 16 → (flatC (Jvm.Cond.and given_1 narrow_1))[29 + k]? = some (Cond.eq (.elem (.field (.string "QuietTake$Tokens" 77) "java/lang/String" "value" "[B") (.int (Int32.ofNat (16 + k)))) (.int (qv_b1.getD (16 + k) 0))) := by decide +kernel
set_option maxRecDepth 100000 in
theorem st_e1_2 : ∀ k, k < 16 → (flatC (Jvm.Cond.and given_1 narrow_1))[45 + k]? = some (Cond.eq (.elem (.field (.string "QuietTake$Tokens" 77) "java/lang/String" "value" "[B") (.int (Int32.ofNat (32 + k)))) (.int (qv_b1.getD (32 + k) 0))) := by decide +kernel
set_option maxRecDepth 100000 in
theorem st_e1_3 : ∀ k, k < 16 → (flatC (Jvm.Cond.and given_1 narrow_1))[61 + k]? = some (Cond.eq (.elem (.field (.string "QuietTake$Tokens" 77) "java/lang/String" "value" "[B") (.int (Int32.ofNat (48 + k)))) (.int (qv_b1.getD (48 + k) 0))) := by decide +kernel
set_option maxRecDepth 100000 in
theorem st_e1_4 : ∀ k, k < 16 → (flatC (Jvm.Cond.and given_1 narrow_1))[77 + k]? = some (Cond.eq (.elem (.field (.string "QuietTake$Tokens" 77) "java/lang/String" "value" "[B") (.int (Int32.ofNat (64 + k)))) (.int (qv_b1.getD (64 + k) 0))) := by decide +kernel
set_option maxRecDepth 100000 in
theorem st_e1_5 : ∀ k, k < 16 → (flatC (Jvm.Cond.and given_1 narrow_1))[93 + k]? = some (Cond.eq (.elem (.field (.string "QuietTake$Tokens" 77) "java/lang/String" "value" "[B") (.int (Int32.ofNat (80 + k)))) (.int (qv_b1.getD (80 + k) 0))) := by decide +kernel
set_option maxRecDepth 100000 in
theorem st_e1_6 : ∀ k, k < 16 → (flatC (Jvm.Cond.and given_1 narrow_1))[109 + k]? = some (Cond.eq (.elem (.field (.string "QuietTake$Tokens" 77) "java/lang/String" "value" "[B") (.int (Int32.ofNat (96 + k)))) (.int (qv_b1.getD (96 + k) 0))) := by decide +kernel
set_option maxRecDepth 100000 in
theorem st_e1_7 : ∀ k, k < 16 → (flatC (Jvm.Cond.and given_1 narrow_1))[125 + k]? = some (Cond.eq (.elem (.field (.string "QuietTake$Tokens" 77) "java/lang/String" "value" "[B") (.int (Int32.ofNat (112 + k)))) (.int (qv_b1.getD (112 + k) 0))) := by decide +kernel
set_option maxRecDepth 100000 in
theorem st_e1_8 : ∀ k, k < 16 → (flatC (Jvm.Cond.and given_1 narrow_1))[141 + k]? = some (Cond.eq (.elem (.field (.string "QuietTake$Tokens" 77) "java/lang/String" "value" "[B") (.int (Int32.ofNat (128 + k)))) (.int (qv_b1.getD (128 + k) 0))) := by decide +kernel
set_option maxRecDepth 100000 in
theorem st_e1_9 : ∀ k, k < 16 → (flatC (Jvm.Cond.and given_1 narrow_1))[157 + k]? = some (Cond.eq (.elem (.field (.string "QuietTake$Tokens" 77) "java/lang/String" "value" "[B") (.int (Int32.ofNat (144 + k)))) (.int (qv_b1.getD (144 + k) 0))) := by decide +kernel
set_option maxRecDepth 100000 in
theorem st_e1_10 : ∀ k, k < 16 → (flatC (Jvm.Cond.and given_1 narrow_1))[173 + k]? = some (Cond.eq (.elem (.field (.string "QuietTake$Tokens" 77) "java/lang/String" "value" "[B") (.int (Int32.ofNat (160 + k)))) (.int (qv_b1.getD (160 + k) 0))) := by decide +kernel
theorem st_el : ∀ i, i < 2 → ∀ j, j < qv_len.getD i 0 → Cond.eq (.elem (.field (st_tm i) "java/lang/String" "value" "[B") (.int (Int32.ofNat j))) (.int ((qv_byt.getD i []).getD j 0)) ∈ flatC (Jvm.Cond.and given_1 narrow_1) := by
  intro i hi j hj
  rcases (show i = 0 ∨ i = 1 by omega) with rfl | rfl
  · have hj : j < 9 := hj
    have h := List.mem_of_getElem? (st_e0 j hj)
    rw [Nat.zero_add] at h
    exact h
  · have hj : j < 176 := hj
    show Cond.eq (.elem (.field (.string "QuietTake$Tokens" 77) "java/lang/String" "value" "[B") (.int (Int32.ofNat j))) (.int (qv_b1.getD j 0)) ∈ _
    rcases (show (0 ≤ j ∧ j < 16) ∨ (16 ≤ j ∧ j < 32) ∨ (32 ≤ j ∧ j < 48) ∨ (48 ≤ j ∧ j < 64) ∨ (64 ≤ j ∧ j < 80) ∨ (80 ≤ j ∧ j < 96) ∨ (96 ≤ j ∧ j < 112) ∨ (112 ≤ j ∧ j < 128) ∨ (128 ≤ j ∧ j < 144) ∨ (144 ≤ j ∧ j < 160) ∨ (160 ≤ j ∧ j < 176) by omega) with h | h | h | h | h | h | h | h | h | h | h
    · have g := List.mem_of_getElem? (st_e1_0 (j - 0) (by omega))
      rw [show 0 + (j - 0) = j by omega] at g
      exact g
    · have g := List.mem_of_getElem? (st_e1_1 (j - 16) (by omega))
      rw [show 16 + (j - 16) = j by omega] at g
      exact g
    · have g := List.mem_of_getElem? (st_e1_2 (j - 32) (by omega))
      rw [show 32 + (j - 32) = j by omega] at g
      exact g
    · have g := List.mem_of_getElem? (st_e1_3 (j - 48) (by omega))
      rw [show 48 + (j - 48) = j by omega] at g
      exact g
    · have g := List.mem_of_getElem? (st_e1_4 (j - 64) (by omega))
      rw [show 64 + (j - 64) = j by omega] at g
      exact g
    · have g := List.mem_of_getElem? (st_e1_5 (j - 80) (by omega))
      rw [show 80 + (j - 80) = j by omega] at g
      exact g
    · have g := List.mem_of_getElem? (st_e1_6 (j - 96) (by omega))
      rw [show 96 + (j - 96) = j by omega] at g
      exact g
    · have g := List.mem_of_getElem? (st_e1_7 (j - 112) (by omega))
      rw [show 112 + (j - 112) = j by omega] at g
      exact g
    · have g := List.mem_of_getElem? (st_e1_8 (j - 128) (by omega))
      rw [show 128 + (j - 128) = j by omega] at g
      exact g
    · have g := List.mem_of_getElem? (st_e1_9 (j - 144) (by omega))
      rw [show 144 + (j - 144) = j by omega] at g
      exact g
    · have g := List.mem_of_getElem? (st_e1_10 (j - 160) (by omega))
      rw [show 160 + (j - 160) = j by omega] at g
      exact g
set_option maxRecDepth 100000 in
theorem st_ex : ∀ i, i < 2 → Cond.exactly (st_tm i) "java/lang/String" ∈ flatC (Jvm.Cond.and given_1 narrow_1) ∧ Cond.eq (.field (st_tm i) "java/lang/String" "coder" "B") (.int 0) ∈ flatC (Jvm.Cond.and given_1 narrow_1) ∧ Cond.arrayOf (.field (st_tm i) "java/lang/String" "value" "[B") .byte ∈ flatC (Jvm.Cond.and given_1 narrow_1) ∧ Cond.eq (.length (.field (st_tm i) "java/lang/String" "value" "[B")) (.int (Int32.ofNat (qv_len.getD i 0))) ∈ flatC (Jvm.Cond.and given_1 narrow_1) := by decide +kernel
set_option maxRecDepth 100000 in
theorem st_ne : Cond.not (Cond.eq (st_tm 1) (st_tm 0)) ∈ flatC (Jvm.Cond.and given_1 narrow_1) := by decide +kernel
set_option maxRecDepth 100000 in
theorem st_cs : Cond.eq (.static "java/lang/String" "COMPACT_STRINGS" "Z") (.int 1) ∈ flatC (Jvm.Cond.and given_1 narrow_1) := by decide +kernel
set_option maxRecDepth 100000 in
theorem st_fm : Cond.isRef (.static "jdk/internal/util/Preconditions" "SIOOBE_FORMATTER" "Ljava/util/function/BiFunction;") ∈ flatC (Jvm.Cond.and given_1 narrow_1) := by decide +kernel
theorem st_eval {args : Array Value} {s : State} {t : Term} {v : Int32} (h : (Cond.eq t (.int v)).before args s = true) : t.eval args s none [] s = some (.int v) := by
  obtain ⟨w, h1, h2⟩ := Cond.eq_one (show (Cond.eq t (.int v)).holds args s none s [] = true from h)
  rw [h1]
  exact h2.symm
theorem st_ro {s : State} {b : Nat} (hts : ∀ w ∈ lw_tbl, w.before #[Value.ref b] s = true) (hgv : (Jvm.Cond.and given_1 narrow_1).before #[Value.ref b] s = true) : ∃ ax : Nat → Nat, qc_ro ax (vl_A s) s := by
  have hs := flat_of_before _ hgv
  have hA : ∀ a : Nat, a < s.heap.size → ¬ vl_A s a := fun a h => Nat.not_le.mpr h
  obtain ⟨adK, adV, hS, hev⟩ := vk_Sof (args := #[Value.ref b]) (s := s) (N := 2) (tm := st_tm) (len := qv_len) (byt := qv_byt) (A := vl_A s) (by decide) (fun i hi => hs _ (st_ex i hi).1) (fun i hi => hs _ (st_ex i hi).2.1) (fun i hi => hs _ (st_ex i hi).2.2.1) (fun i hi => hs _ (st_ex i hi).2.2.2) (fun i hi j hj => hs _ (st_el i hi j hj)) (fun i j hi hj hne => by
    rcases (show i = 0 ∨ i = 1 by omega) with rfl | rfl
    · obtain rfl : j = 1 := by omega
      exact Or.inr (hs _ st_ne)
    · obtain rfl : j = 0 := by omega
      exact Or.inl (hs _ st_ne)) hA
  have hfm := va_Zqof (A := vl_A s) (hts _ (List.mem_of_getElem? (i := 631) (by decide +kernel))) (hts _ (List.mem_of_getElem? (i := 112) (by decide +kernel))) (hs _ st_fm) hA
  have hcs := va_Zof (A := vl_A s) (hts _ (List.mem_of_getElem? (i := 615) (by decide +kernel))) (hts _ (List.mem_of_getElem? (i := 110) (by decide +kernel))) (st_eval (hs _ st_cs)) hA
  have hr0 : vk_R "QuietTake$Tokens" 66 qv_s0 (adK 0) s := vk_R.of (hts (.stringRef "QuietTake$Tokens" 66 qv_s0) (List.mem_of_getElem? (i := 654) (by decide +kernel))) (hev 0 (by decide))
  have hr1 : vk_R "QuietTake$Tokens" 77 qv_s1 (adK 1) s := vk_R.of (hts (.stringRef "QuietTake$Tokens" 77 qv_s1) (List.mem_of_getElem? (i := 605) (by decide +kernel))) (hev 1 (by decide))
  have key : ∀ (fb ft : Nat), va_Z "jdk/internal/util/Preconditions" "SIOOBE_FORMATTER" "Ljava/util/function/BiFunction;" (if fb = 0 then .null else .ref ft) (vl_A s) s s.heap → ∃ ax : Nat → Nat, qc_ro ax (vl_A s) s := by
    intro fb ft hz
    refine ⟨fun q => if q < 2000 then adK (q - 1000) else if q < 3000 then adV (q - 2000) else if q = 3000 then ft else fb, ⟨?_, hr0, hr1, hcs, hz, va_Nw.of rfl (hts _ (List.mem_of_getElem? (i := 788) (by decide +kernel)))⟩, va_Nw.of rfl (hts _ (List.mem_of_getElem? (i := 128) (by decide +kernel))), va_Nw.of rfl (hts _ (List.mem_of_getElem? (i := 144) (by decide +kernel))), va_Nw.of rfl (hts _ (List.mem_of_getElem? (i := 216) (by decide +kernel))), va_Nw.of rfl (hts _ (List.mem_of_getElem? (i := 336) (by decide +kernel))), va_Nw.of rfl (hts _ (List.mem_of_getElem? (i := 385) (by decide +kernel))), va_AO.of (A := #[Value.ref b]) (hts _ (List.mem_of_getElem? (i := 384) (by decide +kernel)))⟩
    refine ⟨fun i hi => ?_, fun i j hi hj he => ?_⟩
    · have h1 := hS.1 i hi
      simp only [show 1000 + i < 2000 by omega, show ¬ 2000 + i < 2000 by omega, show 2000 + i < 3000 by omega, if_true, if_false, show 1000 + i - 1000 = i by omega, show 2000 + i - 2000 = i by omega]
      exact h1
    · simp only [show 1000 + i < 2000 by omega, show 1000 + j < 2000 by omega, if_true, show 1000 + i - 1000 = i by omega, show 1000 + j - 1000 = j by omega] at he
      exact hS.2 i j hi hj he
  rcases hfm with h | ⟨t, h⟩
  · exact key 0 0 h
  · exact key 1 t h
theorem st_K {s : State} {b : Nat} (hts : ∀ w ∈ lw_tbl, w.before #[Value.ref b] s = true) : ∃ (D : va_G) (cy : Nat → Nat), va_K D vwCl (qv_tys cy) s := by
  obtain ⟨c0, iS0, hKn0⟩ := u_known (C := RX0) (T := TX0) (N := 7) (n := 7) hts inX0 (hts (.instantiable RX0 7) (List.mem_of_getElem? (i := 398) (by decide +kernel)))
  obtain ⟨c1, iS1, hKn1⟩ := u_known (C := RX1) (T := TX1) (N := 3) (n := 3) hts inX1 (hts (.instantiable RX1 3) (List.mem_of_getElem? (i := 378) (by decide +kernel)))
  obtain ⟨c2, iS2, hKn2⟩ := u_known (C := RX2) (T := TX2) (N := 5) (n := 5) hts inX2 (hts (.instantiable RX2 5) (List.mem_of_getElem? (i := 215) (by decide +kernel)))
  obtain ⟨c3, iS3, hKn3⟩ := u_known (C := RX3) (T := TX3) (N := 8) (n := 8) hts inX3 (hts (.instantiable RX3 8) (List.mem_of_getElem? (i := 451) (by decide +kernel)))
  obtain ⟨c4, iS4, hKn4⟩ := u_known (C := RX4) (T := TX4) (N := 10) (n := 10) hts inX4 (hts (.instantiable RX4 10) (List.mem_of_getElem? (i := 170) (by decide +kernel)))
  obtain ⟨c5, iS5, hKn5⟩ := u_known (C := RX5) (T := TX5) (N := 18) (n := 18) hts inX5 (hts (.instantiable RX5 18) (List.mem_of_getElem? (i := 209) (by decide +kernel)))
  obtain ⟨c6, iS6, hKn6⟩ := u_known (C := RX6) (T := TX6) (N := 8) (n := 8) hts inX6 (hts (.instantiable RX6 8) (List.mem_of_getElem? (i := 335) (by decide +kernel)))
  obtain ⟨c7, iS7, hKn7⟩ := u_known (C := RX7) (T := TX7) (N := 6) (n := 6) hts inX7 (hts (.instantiable RX7 6) (List.mem_of_getElem? (i := 426) (by decide +kernel)))
  obtain ⟨c8, iS8, hKn8⟩ := u_known (C := RX8) (T := TX8) (N := 2) (n := 2) hts inX8 (hts (.instantiable RX8 2) (List.mem_of_getElem? (i := 127) (by decide +kernel)))
  obtain ⟨c9, iS9, hKn9⟩ := u_known (C := RX9) (T := TX9) (N := 5) (n := 5) hts inX9 (hts (.instantiable RX9 5) (List.mem_of_getElem? (i := 143) (by decide +kernel)))
  obtain ⟨c10, iS10, hKn10⟩ := u_known (C := RX10) (T := TX10) (N := 4) (n := 4) hts inX10 (hts (.instantiable RX10 4) (List.mem_of_getElem? (i := 485) (by decide +kernel)))
  obtain ⟨c11, iS11, hKn11⟩ := u_known (C := RX11) (T := TX11) (N := 12) (n := 12) hts inX11 (hts (.instantiable RX11 12) (List.mem_of_getElem? (i := 119) (by decide +kernel)))
  obtain ⟨c12, iS12, hKn12⟩ := u_known (C := RX12) (T := TX12) (N := 71) (n := 71) hts inX12 (hts (.instantiable RX12 71) (List.mem_of_getElem? (i := 1207) (by decide +kernel)))
  have ar : ∀ ty : FieldType, (Cond.arrayClass ty).before #[Value.ref b] s = true → ∃ cA : ClassId, ArrOfT s cA ty ∧ s.vm.findClass ("[" ++ ty.toString) = some cA := by
    intro ty h
    obtain ⟨c, k, comp, h1, h2, h3⟩ := Cond.arrayClass_spec (show (Cond.arrayClass ty).holds #[Value.ref b] s none s [] = true from h)
    exact ⟨c, fun n z => ⟨fun k h => (by cases h), k, h2, comp, h3⟩, h1⟩
  obtain ⟨y0, a0, b0⟩ := ar .int (hts _ (List.mem_of_getElem? (i := 167) (by decide +kernel)))
  obtain ⟨y1, a1, b1⟩ := ar .byte (hts _ (List.mem_of_getElem? (i := 141) (by decide +kernel)))
  obtain ⟨y2, a2, b2⟩ := ar .boolean (hts _ (List.mem_of_getElem? (i := 236) (by decide +kernel)))
  obtain ⟨y3, a3, b3⟩ := ar .long (hts _ (List.mem_of_getElem? (i := 168) (by decide +kernel)))
  obtain ⟨comp, y4, k4, g1, g2, g3, g4, g5⟩ := Cond.arrayOver_spec (show (Cond.arrayOver (.object "QuietTake$State")).holds #[Value.ref b] s none s [] = true from hts _ (List.mem_of_getElem? (i := 384) (by decide +kernel)))
  refine ⟨(fun k => if k = 0 then c0 else if k = 1 then c1 else if k = 2 then c2 else if k = 3 then c3 else if k = 4 then c4 else if k = 5 then c5 else if k = 6 then c6 else if k = 7 then c7 else if k = 8 then c8 else if k = 9 then c9 else if k = 10 then c10 else if k = 11 then c11 else c12, fun k => if k = 0 then iS0 else if k = 1 then iS1 else if k = 2 then iS2 else if k = 3 then iS3 else if k = 4 then iS4 else if k = 5 then iS5 else if k = 6 then iS6 else if k = 7 then iS7 else if k = 8 then iS8 else if k = 9 then iS9 else if k = 10 then iS10 else if k = 11 then iS11 else iS12), fun t => if t = 0 then y0 else if t = 1 then y1 else if t = 2 then y2 else if t = 3 then y3 else y4, ?_, ?_⟩
  · intro k q hq
    match k, hq with
    | 0, hq => cases hq; exact hKn0
    | 1, hq => cases hq; exact hKn1
    | 2, hq => cases hq; exact hKn2
    | 3, hq => cases hq; exact hKn3
    | 4, hq => cases hq; exact hKn4
    | 5, hq => cases hq; exact hKn5
    | 6, hq => cases hq; exact hKn6
    | 7, hq => cases hq; exact hKn7
    | 8, hq => cases hq; exact hKn8
    | 9, hq => cases hq; exact hKn9
    | 10, hq => cases hq; exact hKn10
    | 11, hq => cases hq; exact hKn11
    | 12, hq => cases hq; exact hKn12
    | k + 13, hq => simp at hq
  · intro k q hq
    match k, hq with
    | 0, hq => cases hq; exact ⟨a0, b0⟩
    | 1, hq => cases hq; exact ⟨a1, b1⟩
    | 2, hq => cases hq; exact ⟨a2, b2⟩
    | 3, hq => cases hq; exact ⟨a3, b3⟩
    | 4, hq => cases hq; exact ⟨fun n z => ⟨fun k h => (by cases h), k4, g3, comp, g4⟩, ⟨k4, comp, g3, g4, g1, g5⟩⟩
    | k + 5, hq => simp [qv_tys] at hq
set_option maxRecDepth 100000 in
set_option maxHeartbeats 4000000 in
/-- THE LAW, from its entry, given a relation that every call keeps -/
theorem whole_open {Rel : Nat → qv_St → qv_St → Prop} (hR0 : LawRel Rel) (hinit : Rel 0 qt_S2 mo_S) {p : Program} {e : Env} {s : State} {m : MethodId} {below : List Frame} {meth : Method} {c : Code} (l : Launch) {b L : Nat} {xs : Nat → Int32} (hL : L ≤ 3072) (C0 : lw_At p s m meth c b L xs) : W p l e room_1 s m #[Value.ref b] below meth c s.heap [] 0 0 (lw_Z below #[Value.ref b] s) (entryFrame m ([Value.ref b] : List Value).toArray 4) := by
  obtain ⟨hx, hb, hr, hml, hown, hts, hX, hbl, hlocks, hgv⟩ := C0
  obtain ⟨ax, hro⟩ := st_ro hts hgv
  obtain ⟨D, cy, hK⟩ := st_K hts
  have htg : ∀ w ∈ gw_tbl, w.before #[Value.ref b] s = true := fun w h => hts w (List.mem_filter.mp h).1
  have hS : va_S (vl_A s) s.heap s.heap [] := va_S.rf
  have hl := lv_entry ([.ref b]) (n := 4) (Nat.le_of_ble_eq_true rfl)
  rw [lg_entry_eq]
  generalize (lg_sl ([.ref b]) ++ List.replicate (4 - (lg_sl ([.ref b])).length) Slot.unset).toArray = ls at hl ⊢
  have hl : lv_has ls 4 [(0, .ref b)] := hl
  refine vs_new (L := Lk) (S := qt_S2) (ci := 11) (n3 := 3) (n4 := 4) (n7 := 7) tyX11 [.null, .null, .null, .null, .null, .null, .null, .int 0, .null, .null, .null, .null] hx hb hml hown htg hK hro hS hl.1 (by rw [Lk_len]; decide) (dkL_s (i := 0) rfl) rfl (dkL_s (i := 1) rfl) rfl (dkL_s (i := 2) rfl) rfl rfl gnX11 tyX11_ok sdf_11 scl_11 sin_11 sini_11 rfl scv_11 (cN2 := 269) (sN2 := 10474) (lev2 := 5) (by decide) (by decide) (by decide) (by decide) (fun B => kcX11_init l D cy ax B) (fun H1 locs1 hP1 hz1 ho1 hS1 => ?_)
  refine lv_astore_n (lv' := [(1, .ref s.heap.size), (0, .ref b)]) hx hb (dkL_s (i := 3) rfl) rfl hl (by decide) rfl (fun ls hl => ?_)
  refine vs_new (L := Lm) (S := mo_S) (ci := 12) (n3 := 11) (n4 := 12) (n7 := 15) tyX12 [.int 0, .null, .int 0, .null, .int 0, .null, .null, .null, .null, .null, .int 0, .int 0, .int 0, .int 0, .int 0, .int 0, .int 0, .int 0, .int 0, .int 0, .int 0, .null, .null, .null, .null, .null, .null, .null, .null, .null, .null, .null, .null, .null, .null, .null, .null, .null, .null, .int 0, .null, .null, .null, .null, .null, .int 0, .null, .null, .null, .int 0, .null, .null, .int 0, .null, .null, .int 0, .null, .int 0, .null, .null, .int 0, .null, .int 0, .int 0, .null, .int 0, .null, .null, .null, .null, .null] hx hb hml hown htg hK hro hS1 hl.1 (by rw [Lm_len]; decide) (dkL_s (i := 4) rfl) rfl (dkL_s (i := 5) rfl) rfl (dkL_s (i := 6) rfl) rfl rfl gnX12 tyX12_ok sdf_12 scl_12 sin_12 sini_12 rfl scv_12 (cN2 := 47) (sN2 := 20517) (lev2 := 3) (by decide) (by decide) (by decide) (by decide) (fun B => kcX12_init l D cy ax B) (fun H2 locs2 hP2 hz2 ho2 hS2 => ?_)
  refine lv_astore_n (lv' := [(2, .ref H1.size), (1, .ref s.heap.size), (0, .ref b)]) hx hb (dkL_s (i := 7) rfl) rfl hl (by decide) rfl (fun ls hl => ?_)
  refine lv_iconst (v := 0) hx hb (dkL_s (i := 8) rfl) (by decide) ?_
  refine lv_istore_n (lv' := [(3, .int 0), (2, .ref H1.size), (1, .ref s.heap.size), (0, .ref b)]) hx hb (dkL_s (i := 9) rfl) rfl hl (by decide) rfl (fun ls hl => ?_)
  refine W.widen (k := 600000) (n := 7302250) (by decide) (by decide) ?_
  have hP1' : va_P D vwCl (qv_wd (qc_ad s.heap.size ax) cy Lk qt_S2) H2 := vl_kept (P := fun _ => False) (by rw [Lk_len]; decide) hP1 (fun q h _ => ho2 q h) (fun q _ _ z => z)
  have hl : lv_has ls 4 [(0, .ref b), (1, .ref (qc_ad s.heap.size ax 0)), (2, .ref (qc_ad H1.size ax 0)), (3, .int (nI 0))] := lv_sub hl [3, 2, 1, 0] rfl
  exact law_loop hR0 hL (n := L + 1) (i := 0) (X := (p, e, s, m, #[Value.ref b], below, meth, c)) (by omega) (by omega) qt_S2 mo_S hinit ⟨⟨hx, hb, hml, hown, htg⟩, hr, hlocks, hK, hro, hX, hbl, Nat.le_refl _, by rw [hz1, Lk_len]; exact Nat.le_refl _, rfl⟩ H2 locs2 ls hP1' hP2 hS2 hl
