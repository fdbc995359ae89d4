theorem qt_at {e0 a : va_E} {r t : List va_E} {n : Nat} (h : r.length = n) : (e0 :: (r ++ a :: t))[n + 1]? = some a := by
  rw [List.getElem?_cons_succ, List.getElem?_append_right (by omega), h, Nat.sub_self]; rfl
theorem qt_set {e0 a v : va_E} {r t : List va_E} {n : Nat} (h : r.length = n) : (e0 :: (r ++ a :: t)).set (n + 1) v = e0 :: (r ++ v :: t) := by
  rw [List.set_cons_succ, List.set_append_right (h := by omega), h, Nat.sub_self]; rfl
theorem qc_eq {l : Launch} {D : va_G} {cy ax : Nat → Nat} {B : Nat} {X : qv_XT} {own : String} {cc : ByteArray} {nL lev cN sN : Nat} {pc : Nat} {lv : List (Nat × Value)} {st : List Value} {es es2 : List va_E} {c0 s0 : Nat} {Q : State → Prop} (h : es = es2) (k : VC l D cy ax B X own cc nL lev cN sN pc lv st es2 c0 s0 Q) : VC l D cy ax B X own cc nL lev cN sN pc lv st es c0 s0 Q := h ▸ k
theorem qc_lv {l : Launch} {D : va_G} {cy ax : Nat → Nat} {B : Nat} {X : qv_XT} {own : String} {cc : ByteArray} {nL lev cN sN : Nat} {pc : Nat} {lv lv2 : List (Nat × Value)} {st : List Value} {es : List va_E} {c0 s0 : Nat} {Q : State → Prop} (ks : List Nat) (hs : lv_pick lv ks = lv2) (k : VC l D cy ax B X own cc nL lev cN sN pc lv2 st es c0 s0 Q) : VC l D cy ax B X own cc nL lev cN sN pc lv st es c0 s0 Q := fun ok H locs ls hP hz hc hS hl => k ok H locs ls hP hz hc hS (lv_sub hl ks hs)
theorem qt_ring (B : Nat) (ax : Nat → Nat) : hi_f (B + 36) 40 = fun i => (kRing[i]?).map (qc_ad B ax) := by
  funext i
  by_cases h : i < 40
  · have h1 : kRing[i]? = some (38 + 5 * i) := (by decide : ∀ i, i < 40 → kRing[i]? = some (38 + 5 * i)) i h
    rw [h1, hi_f, if_pos h]
    simp only [Option.map, qc_ad]
    rw [if_pos (by omega)]
    congr 1
    omega
  · rw [hi_f, if_neg h, List.getElem?_eq_none (by show 40 ≤ i; omega)]
    rfl
theorem qt_slots (B : Nat) (ax : Nat → Nat) : va_up (va_up (va_up (fun _ => none) 0 (some (B + 239))) 1 (some (B + 244))) 2 (some (B + 249)) = fun i => (kSlots[i]?).map (qc_ad B ax) := by
  funext i
  match i with
  | 0 => rfl
  | 1 => rfl
  | 2 => rfl
  | i + 3 =>
    rw [List.getElem?_eq_none (by show 3 ≤ i + 3; omega)]
    simp [va_up]
theorem qvX11_93 : qv_cv RX11 93 yX11_beginAnew cX11_beginAnew 1 none 0 := ⟨⟨gw_ix 504 (by decide +kernel), gw_ix 506 (by decide +kernel), gw_ix 2 (by decide +kernel), gw_ix 96 (by decide +kernel), gw_ix 507 (by decide +kernel)⟩, by decide +kernel⟩
theorem qfX11_10 : Cond.fieldLink RX11 10 (TX11 0).1 (TX11 0).2.1 (TX11 0).2.2.1 ∈ gw_tbl := gw_ix 529 (by decide +kernel)
theorem qfX11_19 : Cond.fieldLink RX11 19 (TX11 1).1 (TX11 1).2.1 (TX11 1).2.2.1 ∈ gw_tbl := gw_ix 530 (by decide +kernel)
theorem qfX11_28 : Cond.fieldLink RX11 28 (TX11 2).1 (TX11 2).2.1 (TX11 2).2.2.1 ∈ gw_tbl := gw_ix 531 (by decide +kernel)
theorem qfX11_35 : Cond.fieldLink RX11 35 (TX11 3).1 (TX11 3).2.1 (TX11 3).2.2.1 ∈ gw_tbl := gw_ix 532 (by decide +kernel)
theorem qfX11_42 : Cond.fieldLink RX11 42 (TX11 4).1 (TX11 4).2.1 (TX11 4).2.2.1 ∈ gw_tbl := gw_ix 533 (by decide +kernel)
theorem qfX11_49 : Cond.fieldLink RX11 49 (TX11 5).1 (TX11 5).2.1 (TX11 5).2.2.1 ∈ gw_tbl := gw_ix 534 (by decide +kernel)
theorem qfX11_53 : Cond.fieldLink RX11 53 (TX11 6).1 (TX11 6).2.1 (TX11 6).2.2.1 ∈ gw_tbl := gw_ix 535 (by decide +kernel)
theorem qfX11_62 : Cond.fieldLink RX11 62 (TX11 8).1 (TX11 8).2.1 (TX11 8).2.2.1 ∈ gw_tbl := gw_ix 537 (by decide +kernel)
theorem qfX11_71 : Cond.fieldLink RX11 71 (TX11 9).1 (TX11 9).2.1 (TX11 9).2.2.1 ∈ gw_tbl := gw_ix 538 (by decide +kernel)
theorem qfX11_80 : Cond.fieldLink RX11 80 (TX11 10).1 (TX11 10).2.1 (TX11 10).2.2.1 ∈ gw_tbl := gw_ix 539 (by decide +kernel)
theorem qfX11_89 : Cond.fieldLink RX11 89 (TX11 11).1 (TX11 11).2.1 (TX11 11).2.2.1 ∈ gw_tbl := gw_ix 540 (by decide +kernel)
def tbX11_init : List (Nat × Instr × Nat) := [(0, .aload_n 0, 1), (1, .invokespecial 1, 3), (4, .aload_n 0, 1), (5, .new 7, 3), (8, .dup, 1), (9, .invokespecial 9, 3), (12, .putfield 10, 3), (15, .aload_n 0, 1), (16, .new 16, 3), (19, .dup, 1), (20, .invokespecial 18, 3), (23, .putfield 19, 3), (26, .aload_n 0, 1), (27, .new 23, 3), (30, .dup, 1), (31, .aload_n 0, 1), (32, .getfield 19, 3), (35, .invokespecial 25, 3), (38, .putfield 28, 3), (41, .aload_n 0, 1), (42, .new 32, 3), (45, .dup, 1), (46, .invokespecial 34, 3), (49, .putfield 35, 3), (52, .aload_n 0, 1), (53, .new 39, 3), (56, .dup, 1), (57, .invokespecial 41, 3), (60, .putfield 42, 3), (63, .aload_n 0, 1), (64, .new 46, 3), (67, .dup, 1), (68, .invokespecial 48, 3), (71, .putfield 49, 3), (74, .aload_n 0, 1), (75, .iconst 3, 1), (76, .anewarray 39, 3), (79, .putfield 53, 3), (82, .iconst 0, 1), (83, .istore_n 1, 1), (84, .iload_n 1, 1), (85, .iconst 3, 1), (86, .if_icmp .ge 22, 3), (89, .aload_n 0, 1), (90, .getfield 53, 3), (93, .iload_n 1, 1), (94, .new 39, 3), (97, .dup, 1), (98, .invokespecial 41, 3), (101, .aastore, 1), (102, .iinc 1 1, 3), (105, .goto (-21), 3), (108, .aload_n 0, 1), (109, .new 57, 3), (112, .dup, 1), (113, .aload_n 0, 1), (114, .getfield 35, 3), (117, .invokespecial 59, 3), (120, .putfield 62, 3), (123, .aload_n 0, 1), (124, .new 66, 3), (127, .dup, 1), (128, .aload_n 0, 1), (129, .getfield 35, 3), (132, .aload_n 0, 1), (133, .getfield 42, 3), (136, .aload_n 0, 1), (137, .getfield 62, 3), (140, .invokespecial 68, 3), (143, .putfield 71, 3), (146, .aload_n 0, 1), (147, .new 75, 3), (150, .dup, 1), (151, .aload_n 0, 1), (152, .getfield 35, 3), (155, .aload_n 0, 1), (156, .getfield 42, 3), (159, .aload_n 0, 1), (160, .getfield 71, 3), (163, .invokespecial 77, 3), (166, .putfield 80, 3), (169, .aload_n 0, 1), (170, .new 84, 3), (173, .dup, 1), (174, .aload_n 0, 1), (175, .getfield 35, 3), (178, .aload_n 0, 1), (179, .getfield 62, 3), (182, .invokespecial 86, 3), (185, .putfield 89, 3), (188, .aload_n 0, 1), (189, .invokevirtual 93, 3), (192, .return_, 1)]
set_option maxRecDepth 20000 in
theorem daX11_init : ∀ x ∈ tbX11_init, decode cX11_init x.1 = .ok x.2 := by decide +kernel
theorem dkX11_init {i pc n : Nat} {ins : Instr} (h : tbX11_init[i]? = some (pc, ins, n)) : decode cX11_init pc = .ok (ins, n) := daX11_init (pc, ins, n) (List.mem_of_getElem? h)
def qt_r0 (cy ax : Nat → Nat) (B : Nat) : List va_E := []
theorem qt_l0 (cy ax : Nat → Nat) (B : Nat) : (qt_r0 cy ax B).length = 0 := rfl
theorem qo_1 : Cond.methodLink RX11 1 Lib.objectInit ∈ gw_tbl := gw_ix 123 (by decide +kernel)
theorem qcl_8 : Cond.classLink RX11 7 "QuietTake$Tape" ∈ gw_tbl := gw_ix 126 (by decide +kernel)
theorem qin_8 : Cond.instantiable RX8 2 ∈ gw_tbl := gw_ix 127 (by decide +kernel)
theorem qini_8 : Cond.initialized RX8 ∈ gw_tbl := gw_ix 97 (by decide +kernel)
theorem qdf_8 : ∀ j, j < 2 → defaultValue (tyX8 j) = vp_V [.null, .int 0] j := by
  intro j hj
  rcases (show j = 0 ∨ j = 1 by omega) with rfl | rfl <;> rfl
theorem qcv_8 : (Cond.instanceMethod yX8_init ∈ gw_tbl ∧ Cond.initialized yX8_init.cls ∈ gw_tbl ∧ Cond.code yX8_init cX8_init 1 none ∈ gw_tbl) ∧ (yX8_init.cls ≠ "java/lang/invoke/MethodHandle" ∧ yX8_init.cls ≠ "java/lang/invoke/VarHandle" ∧ (parseMethodDescriptor yX8_init.desc).map (fun d => d.parameters.length) = some 0) := ⟨⟨gw_ix 129 (by decide +kernel), gw_ix 97 (by decide +kernel), gw_ix 130 (by decide +kernel)⟩, by decide +kernel⟩
def qt_r1 (cy ax : Nat → Nat) (B : Nat) : List va_E := qt_r0 cy ax B ++ bkX8_init cy (B + 1)
theorem qt_l1 (cy ax : Nat → Nat) (B : Nat) : (qt_r1 cy ax B).length = 2 := by
  rw [qt_r1, List.length_append, qt_l0, show (bkX8_init cy (B + 1)).length = 2 from rfl]
theorem qcl_9 : Cond.classLink RX11 16 "QuietTake$Tokens" ∈ gw_tbl := gw_ix 142 (by decide +kernel)
theorem qin_9 : Cond.instantiable RX9 5 ∈ gw_tbl := gw_ix 143 (by decide +kernel)
theorem qini_9 : Cond.initialized RX9 ∈ gw_tbl := gw_ix 98 (by decide +kernel)
theorem qdf_9 : ∀ j, j < 5 → defaultValue (tyX9 j) = vp_V [.null, .null, .null, .int 0, .int 0] j := by
  intro j hj
  rcases (show j = 0 ∨ j = 1 ∨ j = 2 ∨ j = 3 ∨ j = 4 by omega) with rfl | rfl | rfl | rfl | rfl <;> rfl
theorem qcv_9 : (Cond.instanceMethod yX9_init ∈ gw_tbl ∧ Cond.initialized yX9_init.cls ∈ gw_tbl ∧ Cond.code yX9_init cX9_init 1 none ∈ gw_tbl) ∧ (yX9_init.cls ≠ "java/lang/invoke/MethodHandle" ∧ yX9_init.cls ≠ "java/lang/invoke/VarHandle" ∧ (parseMethodDescriptor yX9_init.desc).map (fun d => d.parameters.length) = some 0) := ⟨⟨gw_ix 145 (by decide +kernel), gw_ix 98 (by decide +kernel), gw_ix 146 (by decide +kernel)⟩, by decide +kernel⟩
def qt_r2 (cy ax : Nat → Nat) (B : Nat) : List va_E := qt_r1 cy ax B ++ bkX9_init cy (B + 3)
theorem qt_l2 (cy ax : Nat → Nat) (B : Nat) : (qt_r2 cy ax B).length = 6 := by
  rw [qt_r2, List.length_append, qt_l1, show (bkX9_init cy (B + 3)).length = 4 from rfl]
theorem qcl_4 : Cond.classLink RX11 23 "QuietTake$Reader" ∈ gw_tbl := gw_ix 169 (by decide +kernel)
theorem qin_4 : Cond.instantiable RX4 10 ∈ gw_tbl := gw_ix 170 (by decide +kernel)
theorem qini_4 : Cond.initialized RX4 ∈ gw_tbl := gw_ix 99 (by decide +kernel)
theorem qdf_4 : ∀ j, j < 10 → defaultValue (tyX4 j) = vp_V [.null, .null, .int 0, .int 0, .int 0, .int 0, .int 0, .int 0, .int 0, .int 0] j := by
  intro j hj
  rcases (show j = 0 ∨ j = 1 ∨ j = 2 ∨ j = 3 ∨ j = 4 ∨ j = 5 ∨ j = 6 ∨ j = 7 ∨ j = 8 ∨ j = 9 by omega) with rfl | rfl | rfl | rfl | rfl | rfl | rfl | rfl | rfl | rfl <;> rfl
theorem qcv_4 : (Cond.methodLink RX11 25 yX4_init ∈ gw_tbl ∧ Cond.instanceMethod yX4_init ∈ gw_tbl ∧ Cond.initialized yX4_init.cls ∈ gw_tbl ∧ Cond.code yX4_init cX4_init 2 none ∈ gw_tbl) ∧ (yX4_init.cls ≠ "java/lang/invoke/MethodHandle" ∧ yX4_init.cls ≠ "java/lang/invoke/VarHandle" ∧ (parseMethodDescriptor yX4_init.desc).map (fun d => d.parameters.length) = some 1) := ⟨⟨gw_ix 171 (by decide +kernel), gw_ix 172 (by decide +kernel), gw_ix 99 (by decide +kernel), gw_ix 173 (by decide +kernel)⟩, by decide +kernel⟩
def qt_r3 (cy ax : Nat → Nat) (B : Nat) : List va_E := qt_r2 cy ax B ++ bkX4_init cy (B + 7) (B + 3)
theorem qt_l3 (cy ax : Nat → Nat) (B : Nat) : (qt_r3 cy ax B).length = 8 := by
  rw [qt_r3, List.length_append, qt_l2, show (bkX4_init cy (B + 7) (B + 3)).length = 2 from rfl]
theorem qcl_5 : Cond.classLink RX11 32 "QuietTake$Script" ∈ gw_tbl := gw_ix 208 (by decide +kernel)
theorem qin_5 : Cond.instantiable RX5 18 ∈ gw_tbl := gw_ix 209 (by decide +kernel)
theorem qini_5 : Cond.initialized RX5 ∈ gw_tbl := gw_ix 100 (by decide +kernel)
theorem qdf_5 : ∀ j, j < 18 → defaultValue (tyX5 j) = vp_V [.int 0, .int 0, .int 0, .null, .null, .null, .null, .null, .null, .null, .null, .null, .null, .null, .null, .int 0, .int 0, .int 0] j := by
  intro j hj
  rcases (show j = 0 ∨ j = 1 ∨ j = 2 ∨ j = 3 ∨ j = 4 ∨ j = 5 ∨ j = 6 ∨ j = 7 ∨ j = 8 ∨ j = 9 ∨ j = 10 ∨ j = 11 ∨ j = 12 ∨ j = 13 ∨ j = 14 ∨ j = 15 ∨ j = 16 ∨ j = 17 by omega) with rfl | rfl | rfl | rfl | rfl | rfl | rfl | rfl | rfl | rfl | rfl | rfl | rfl | rfl | rfl | rfl | rfl | rfl <;> rfl
theorem qcv_5 : (Cond.methodLink RX11 34 yX5_init ∈ gw_tbl ∧ Cond.instanceMethod yX5_init ∈ gw_tbl ∧ Cond.initialized yX5_init.cls ∈ gw_tbl ∧ Cond.code yX5_init cX5_init 1 none ∈ gw_tbl) ∧ (yX5_init.cls ≠ "java/lang/invoke/MethodHandle" ∧ yX5_init.cls ≠ "java/lang/invoke/VarHandle" ∧ (parseMethodDescriptor yX5_init.desc).map (fun d => d.parameters.length) = some 0) := ⟨⟨gw_ix 210 (by decide +kernel), gw_ix 211 (by decide +kernel), gw_ix 100 (by decide +kernel), gw_ix 212 (by decide +kernel)⟩, by decide +kernel⟩
def qt_r4 (cy ax : Nat → Nat) (B : Nat) : List va_E := qt_r3 cy ax B ++ bkX5_init cy ax (B + 9)
theorem qt_l4 (cy ax : Nat → Nat) (B : Nat) : (qt_r4 cy ax B).length = 30 := by
  rw [qt_r4, List.length_append, qt_l3, show (bkX5_init cy ax (B + 9)).length = 22 from by simp [bkX5_init, qc_es]; rfl]
theorem qcl_6 : Cond.classLink RX11 39 "QuietTake$State" ∈ gw_tbl := gw_ix 334 (by decide +kernel)
theorem qin_6 : Cond.instantiable RX6 8 ∈ gw_tbl := gw_ix 335 (by decide +kernel)
theorem qini_6 : Cond.initialized RX6 ∈ gw_tbl := gw_ix 102 (by decide +kernel)
theorem qdf_6 : ∀ j, j < 8 → defaultValue (tyX6 j) = vp_V [.int 0, .int 0, .int 0, .int 0, .null, .null, .null, .null] j := by
  intro j hj
  rcases (show j = 0 ∨ j = 1 ∨ j = 2 ∨ j = 3 ∨ j = 4 ∨ j = 5 ∨ j = 6 ∨ j = 7 by omega) with rfl | rfl | rfl | rfl | rfl | rfl | rfl | rfl <;> rfl
theorem qcv_6 : (Cond.instanceMethod yX6_init ∈ gw_tbl ∧ Cond.initialized yX6_init.cls ∈ gw_tbl ∧ Cond.code yX6_init cX6_init 1 none ∈ gw_tbl) ∧ (yX6_init.cls ≠ "java/lang/invoke/MethodHandle" ∧ yX6_init.cls ≠ "java/lang/invoke/VarHandle" ∧ (parseMethodDescriptor yX6_init.desc).map (fun d => d.parameters.length) = some 0) := ⟨⟨gw_ix 337 (by decide +kernel), gw_ix 102 (by decide +kernel), gw_ix 338 (by decide +kernel)⟩, by decide +kernel⟩
def qt_r5 (cy ax : Nat → Nat) (B : Nat) : List va_E := qt_r4 cy ax B ++ bkX6_init cy (B + 31)
theorem qt_l5 (cy ax : Nat → Nat) (B : Nat) : (qt_r5 cy ax B).length = 35 := by
  rw [qt_r5, List.length_append, qt_l4, show (bkX6_init cy (B + 31)).length = 5 from rfl]
theorem qcl_1 : Cond.classLink RX11 46 "QuietTake$History" ∈ gw_tbl := gw_ix 377 (by decide +kernel)
theorem qin_1 : Cond.instantiable RX1 3 ∈ gw_tbl := gw_ix 378 (by decide +kernel)
theorem qini_1 : Cond.initialized RX1 ∈ gw_tbl := gw_ix 103 (by decide +kernel)
theorem qdf_1 : ∀ j, j < 3 → defaultValue (tyX1 j) = vp_V [.null, .int 0, .int 0] j := by
  intro j hj
  rcases (show j = 0 ∨ j = 1 ∨ j = 2 by omega) with rfl | rfl | rfl <;> rfl
theorem qcv_1 : (Cond.methodLink RX11 48 yX1_init ∈ gw_tbl ∧ Cond.instanceMethod yX1_init ∈ gw_tbl ∧ Cond.initialized yX1_init.cls ∈ gw_tbl ∧ Cond.code yX1_init cX1_init 2 none ∈ gw_tbl) ∧ (yX1_init.cls ≠ "java/lang/invoke/MethodHandle" ∧ yX1_init.cls ≠ "java/lang/invoke/VarHandle" ∧ (parseMethodDescriptor yX1_init.desc).map (fun d => d.parameters.length) = some 0) := ⟨⟨gw_ix 379 (by decide +kernel), gw_ix 380 (by decide +kernel), gw_ix 103 (by decide +kernel), gw_ix 381 (by decide +kernel)⟩, by decide +kernel⟩
def qt_r6 (cy ax : Nat → Nat) (B : Nat) : List va_E := qt_r5 cy ax B ++ bkX1_init cy (B + 36)
theorem qt_l6 (cy ax : Nat → Nat) (B : Nat) : (qt_r6 cy ax B).length = 237 := by
  rw [qt_r6, List.length_append, qt_l5, hi_esl]
def qt_r7 (cy ax : Nat → Nat) (B : Nat) : List va_E := qt_r6 cy ax B ++ .inl (cy 4, 3, .inr (.inr (.inr (.inr (va_up (va_up (va_up (fun _ => none) 0 (some (B + 239))) 1 (some (B + 244))) 2 (some (B + 249))))))) :: (bkX6_init cy (B + 239) ++ bkX6_init cy (B + 244) ++ bkX6_init cy (B + 249))
theorem qt_l7 (cy ax : Nat → Nat) (B : Nat) : (qt_r7 cy ax B).length = 253 := by
  rw [qt_r7, List.length_append, qt_l6]; rfl
theorem qcl_0 : Cond.classLink RX11 57 "QuietTake$Ears" ∈ gw_tbl := gw_ix 397 (by decide +kernel)
theorem qin_0 : Cond.instantiable RX0 7 ∈ gw_tbl := gw_ix 398 (by decide +kernel)
theorem qini_0 : Cond.initialized RX0 ∈ gw_tbl := gw_ix 104 (by decide +kernel)
theorem qdf_0 : ∀ j, j < 7 → defaultValue (tyX0 j) = vp_V [.null, .null, .null, .null, .null, .null, .int 0] j := by
  intro j hj
  rcases (show j = 0 ∨ j = 1 ∨ j = 2 ∨ j = 3 ∨ j = 4 ∨ j = 5 ∨ j = 6 by omega) with rfl | rfl | rfl | rfl | rfl | rfl | rfl <;> rfl
theorem qcv_0 : (Cond.methodLink RX11 59 yX0_init ∈ gw_tbl ∧ Cond.instanceMethod yX0_init ∈ gw_tbl ∧ Cond.initialized yX0_init.cls ∈ gw_tbl ∧ Cond.code yX0_init cX0_init 2 none ∈ gw_tbl) ∧ (yX0_init.cls ≠ "java/lang/invoke/MethodHandle" ∧ yX0_init.cls ≠ "java/lang/invoke/VarHandle" ∧ (parseMethodDescriptor yX0_init.desc).map (fun d => d.parameters.length) = some 1) := ⟨⟨gw_ix 399 (by decide +kernel), gw_ix 400 (by decide +kernel), gw_ix 104 (by decide +kernel), gw_ix 401 (by decide +kernel)⟩, by decide +kernel⟩
def qt_r8 (cy ax : Nat → Nat) (B : Nat) : List va_E := qt_r7 cy ax B ++ bkX0_init cy (B + 254) (B + 9)
theorem qt_l8 (cy ax : Nat → Nat) (B : Nat) : (qt_r8 cy ax B).length = 259 := by
  rw [qt_r8, List.length_append, qt_l7, show (bkX0_init cy (B + 254) (B + 9)).length = 6 from rfl]
theorem qcl_7 : Cond.classLink RX11 66 "QuietTake$Survey" ∈ gw_tbl := gw_ix 425 (by decide +kernel)
theorem qin_7 : Cond.instantiable RX7 6 ∈ gw_tbl := gw_ix 426 (by decide +kernel)
theorem qini_7 : Cond.initialized RX7 ∈ gw_tbl := gw_ix 105 (by decide +kernel)
theorem qdf_7 : ∀ j, j < 6 → defaultValue (tyX7 j) = vp_V [.null, .null, .null, .null, .null, .int 0] j := by
  intro j hj
  rcases (show j = 0 ∨ j = 1 ∨ j = 2 ∨ j = 3 ∨ j = 4 ∨ j = 5 by omega) with rfl | rfl | rfl | rfl | rfl | rfl <;> rfl
theorem qcv_7 : (Cond.methodLink RX11 68 yX7_init ∈ gw_tbl ∧ Cond.instanceMethod yX7_init ∈ gw_tbl ∧ Cond.initialized yX7_init.cls ∈ gw_tbl ∧ Cond.code yX7_init cX7_init 4 none ∈ gw_tbl) ∧ (yX7_init.cls ≠ "java/lang/invoke/MethodHandle" ∧ yX7_init.cls ≠ "java/lang/invoke/VarHandle" ∧ (parseMethodDescriptor yX7_init.desc).map (fun d => d.parameters.length) = some 3) := ⟨⟨gw_ix 427 (by decide +kernel), gw_ix 428 (by decide +kernel), gw_ix 105 (by decide +kernel), gw_ix 429 (by decide +kernel)⟩, by decide +kernel⟩
def qt_r9 (cy ax : Nat → Nat) (B : Nat) : List va_E := qt_r8 cy ax B ++ bkX7_init cy (B + 260) (B + 9) (B + 31) (B + 254)
theorem qt_l9 (cy ax : Nat → Nat) (B : Nat) : (qt_r9 cy ax B).length = 262 := by
  rw [qt_r9, List.length_append, qt_l8, show (bkX7_init cy (B + 260) (B + 9) (B + 31) (B + 254)).length = 3 from rfl]
theorem qcl_3 : Cond.classLink RX11 75 "QuietTake$Plan" ∈ gw_tbl := gw_ix 450 (by decide +kernel)
theorem qin_3 : Cond.instantiable RX3 8 ∈ gw_tbl := gw_ix 451 (by decide +kernel)
theorem qini_3 : Cond.initialized RX3 ∈ gw_tbl := gw_ix 106 (by decide +kernel)
theorem qdf_3 : ∀ j, j < 8 → defaultValue (tyX3 j) = vp_V [.null, .null, .null, .null, .null, .null, .null, .int 0] j := by
  intro j hj
  rcases (show j = 0 ∨ j = 1 ∨ j = 2 ∨ j = 3 ∨ j = 4 ∨ j = 5 ∨ j = 6 ∨ j = 7 by omega) with rfl | rfl | rfl | rfl | rfl | rfl | rfl | rfl <;> rfl
theorem qcv_3 : (Cond.methodLink RX11 77 yX3_init ∈ gw_tbl ∧ Cond.instanceMethod yX3_init ∈ gw_tbl ∧ Cond.initialized yX3_init.cls ∈ gw_tbl ∧ Cond.code yX3_init cX3_init 4 none ∈ gw_tbl) ∧ (yX3_init.cls ≠ "java/lang/invoke/MethodHandle" ∧ yX3_init.cls ≠ "java/lang/invoke/VarHandle" ∧ (parseMethodDescriptor yX3_init.desc).map (fun d => d.parameters.length) = some 3) := ⟨⟨gw_ix 452 (by decide +kernel), gw_ix 453 (by decide +kernel), gw_ix 106 (by decide +kernel), gw_ix 454 (by decide +kernel)⟩, by decide +kernel⟩
def qt_r10 (cy ax : Nat → Nat) (B : Nat) : List va_E := qt_r9 cy ax B ++ bkX3_init cy (B + 263) (B + 9) (B + 31) (B + 260)
theorem qt_l10 (cy ax : Nat → Nat) (B : Nat) : (qt_r10 cy ax B).length = 267 := by
  rw [qt_r10, List.length_append, qt_l9, show (bkX3_init cy (B + 263) (B + 9) (B + 31) (B + 260)).length = 5 from rfl]
theorem qcl_10 : Cond.classLink RX11 84 "QuietTake$Track" ∈ gw_tbl := gw_ix 484 (by decide +kernel)
theorem qin_10 : Cond.instantiable RX10 4 ∈ gw_tbl := gw_ix 485 (by decide +kernel)
theorem qini_10 : Cond.initialized RX10 ∈ gw_tbl := gw_ix 107 (by decide +kernel)
theorem qdf_10 : ∀ j, j < 4 → defaultValue (tyX10 j) = vp_V [.null, .null, .null, .int 0] j := by
  intro j hj
  rcases (show j = 0 ∨ j = 1 ∨ j = 2 ∨ j = 3 by omega) with rfl | rfl | rfl | rfl <;> rfl
theorem qcv_10 : (Cond.methodLink RX11 86 yX10_init ∈ gw_tbl ∧ Cond.instanceMethod yX10_init ∈ gw_tbl ∧ Cond.initialized yX10_init.cls ∈ gw_tbl ∧ Cond.code yX10_init cX10_init 3 none ∈ gw_tbl) ∧ (yX10_init.cls ≠ "java/lang/invoke/MethodHandle" ∧ yX10_init.cls ≠ "java/lang/invoke/VarHandle" ∧ (parseMethodDescriptor yX10_init.desc).map (fun d => d.parameters.length) = some 2) := ⟨⟨gw_ix 486 (by decide +kernel), gw_ix 487 (by decide +kernel), gw_ix 107 (by decide +kernel), gw_ix 488 (by decide +kernel)⟩, by decide +kernel⟩
def qt_r11 (cy ax : Nat → Nat) (B : Nat) : List va_E := qt_r10 cy ax B ++ bkX10_init cy (B + 268) (B + 9) (B + 254)
theorem qt_l11 (cy ax : Nat → Nat) (B : Nat) : (qt_r11 cy ax B).length = 269 := by
  rw [qt_r11, List.length_append, qt_l10, show (bkX10_init cy (B + 268) (B + 9) (B + 254)).length = 2 from rfl]
def qt_stL (q : Nat) : List qv_Lc := [.inl (6, [none, none, none, none, some (q + 1), some (q + 2), some (q + 3), some (q + 4)]), .inr (0, 8, []), .inr (0, 6, []), .inr (0, 6, []), .inr (0, 6, [])]
def qt_ringL : Nat → List qv_Lc
  | 0 => []
  | i + 1 => qt_ringL i ++ qt_stL (38 + 5 * i)
theorem qt_ringLl : ∀ i, (qt_ringL i).length = 5 * i
  | 0 => rfl
  | i + 1 => by
    rw [qt_ringL, List.length_append, qt_ringLl i]
    show 5 * i + 5 = _
    omega
theorem qc_go_app (ad : Nat → Nat) (cy : Nat → ClassId) (S : qv_St) : ∀ (L1 L2 : List qv_Lc) (n : Nat), qc_go ad cy S n (L1 ++ L2) = qc_go ad cy S n L1 ++ qc_go ad cy S (n + L1.length) L2
  | [], L2, n => rfl
  | c :: t, L2, n => by
    rw [List.cons_append, qc_go, qc_go, List.cons_append, qc_go_app ad cy S t L2 (n + 1), List.length_cons]
    rw [show n + 1 + t.length = n + (t.length + 1) by omega]
def qt_Sg (sc : qv_St) : qv_St := (fun q => if 9 ≤ q ∧ q < 31 then sc.1 (q - 9) else if q = 7 then upd (fun _ => 0) 9 (-1) else if q = 260 then upd (fun _ => 0) 5 (-1) else fun _ => 0, fun _ _ => 0)
theorem qt_Sg_0 {sc : qv_St} {q : Nat} (h1 : 31 ≤ q) (h2 : q < 260) : (qt_Sg sc).1 q = fun _ => 0 := by
  simp only [qt_Sg]
  rw [if_neg (by omega), if_neg (by omega), if_neg (by omega)]
theorem qt_st1 (sc : qv_St) (cy ax : Nat → Nat) (B i : Nat) (hi : i < 40) : bkX6_init cy (B + 36 + (2 + 5 * i)) = qc_go (qc_ad B ax) cy (qt_Sg sc) (38 + 5 * i) (qt_stL (38 + 5 * i)) := by
  have z : ∀ k, k < 5 → (qt_Sg sc).1 (38 + 5 * i + k) = fun _ => 0 := fun k hk => qt_Sg_0 (by omega) (by omega)
  have z0 := z 0 (by omega)
  have z1 := z 1 (by omega)
  have z2 := z 2 (by omega)
  have z3 := z 3 (by omega)
  have z4 := z 4 (by omega)
  have a : ∀ k, k < 5 → qc_ad B ax (38 + 5 * i + k) = B + 36 + (2 + 5 * i) + k := fun k hk => by
    simp only [qc_ad]
    rw [if_pos (by omega)]
    omega
  simp only [qt_stL, qc_go, qc_gc, qc_gf, qv_fv, bkX6_init]
  rw [a 1 (by omega), a 2 (by omega), a 3 (by omega), a 4 (by omega)]
  rw [Nat.add_zero] at z0
  simp only [show 38 + 5 * i + 1 + 1 = 38 + 5 * i + 2 by omega, show 38 + 5 * i + 2 + 1 = 38 + 5 * i + 3 by omega, show 38 + 5 * i + 3 + 1 = 38 + 5 * i + 4 by omega, z0, z1, z2, z3, z4]
  rfl
theorem qt_ringE (sc : qv_St) (cy ax : Nat → Nat) (B : Nat) : ∀ i, i ≤ 40 → hi_sts cy (B + 36) i = qc_go (qc_ad B ax) cy (qt_Sg sc) 38 (qt_ringL i)
  | 0, _ => rfl
  | i + 1, h => by
    rw [hi_sts, qt_ringL, qc_go_app, ← qt_ringE sc cy ax B i (by omega), qt_ringLl, qt_st1 sc cy ax B i (by omega)]
theorem qa {a a2 b b2 : List va_E} (h1 : a = a2) (h2 : b = b2) : a ++ b = a2 ++ b2 := by rw [h1, h2]
set_option maxRecDepth 100000 in
theorem qt_split : Lk = [.inl (11, [some 1, some 3, some 7, some 9, some 31, some 36, some 238, none, some 254, some 260, some 263, some 268])] ++ ([.inl (8, [some 2, none]), .inr (1, 2000, [])] ++ ([.inl (9, [some 4, some 5, some 6, none, none]), .inr (0, 401, []), .inr (0, 401, []), .inr (3, 401, [])] ++ ([.inl (4, [some 3, some 8, none, none, none, none, none, none, none, none]), .inr (3, 18, [])] ++ ([.inl (5, [none, none, none, some 10, some 11, some 12, some 13, some 14, some 15, some 16, some 17, some 18, some 19, some 23, some 27, none, none, none]), .inr (2, 8, []), .inr (0, 8, []), .inr (0, 8, []), .inr (0, 8, []), .inr (0, 8, []), .inr (0, 8, []), .inr (0, 4, []), .inr (0, 6, []), .inr (0, 6, []), .inl (2, [some 20, some 21, some 22, none, none]), .inr (0, 400, []), .inr (0, 32, []), .inr (0, 32, []), .inl (2, [some 24, some 25, some 26, none, none]), .inr (0, 400, []), .inr (0, 32, []), .inr (0, 32, []), .inl (2, [some 28, some 29, some 30, none, none]), .inr (0, 400, []), .inr (0, 32, []), .inr (0, 32, [])] ++ ([.inl (6, [none, none, none, none, some 32, some 33, some 34, some 35]), .inr (0, 8, []), .inr (0, 6, []), .inr (0, 6, []), .inr (0, 6, [])] ++ ([.inl (1, [some 37, none, none]), .inr (4, 40, kRing)] ++ (qt_ringL 40 ++ ([.inr (4, 3, kSlots)] ++ ([.inl (6, [none, none, none, none, some 240, some 241, some 242, some 243]), .inr (0, 8, []), .inr (0, 6, []), .inr (0, 6, []), .inr (0, 6, [])] ++ ([.inl (6, [none, none, none, none, some 245, some 246, some 247, some 248]), .inr (0, 8, []), .inr (0, 6, []), .inr (0, 6, []), .inr (0, 6, [])] ++ ([.inl (6, [none, none, none, none, some 250, some 251, some 252, some 253]), .inr (0, 8, []), .inr (0, 6, []), .inr (0, 6, []), .inr (0, 6, [])] ++ ([.inl (0, [some 9, some 255, some 256, some 257, some 258, some 259, none]), .inr (0, 9, []), .inr (0, 9, []), .inr (0, 9, []), .inr (0, 8, []), .inr (0, 8, [])] ++ ([.inl (7, [some 9, some 31, some 254, some 261, some 262, none]), .inr (0, 1545, []), .inr (0, 1545, [])] ++ ([.inl (3, [some 9, some 31, some 260, some 264, some 265, some 266, some 267, none]), .inr (0, 5, []), .inr (0, 5, []), .inr (0, 32, []), .inr (0, 5, [])] ++ ([.inl (10, [some 9, some 254, some 269, none]), .inr (0, 1000, [])]))))))))))))))) := rfl
set_option maxRecDepth 100000 in
set_option maxHeartbeats 4000000 in
theorem qt_world_g (sc : qv_St) (cy ax : Nat → Nat) (B : Nat) : [.inr (11, [.ref (B + 1), .ref (B + 3), .ref (B + 7), .ref (B + 9), .ref (B + 31), .ref (B + 36), .ref (B + 238), .int 0, .ref (B + 254), .ref (B + 260), .ref (B + 263), .ref (B + 268)])] ++ (bkX8_init cy (B + 1) ++ (bkX9_init cy (B + 3) ++ (bkX4_init cy (B + 7) (B + 3) ++ (qc_go (qc_ad (B + 9) ax) cy sc 0 Ls ++ (bkX6_init cy (B + 31) ++ ([.inr (1, [.ref (B + 36 + 1), .int 0, .int 0]), .inl (cy 4, 40, .inr (.inr (.inr (.inr (fun i => (kRing[i]?).map (qc_ad B ax))))))] ++ (hi_sts cy (B + 36) 40 ++ ([.inl (cy 4, 3, .inr (.inr (.inr (.inr (fun i => (kSlots[i]?).map (qc_ad B ax))))))] ++ (bkX6_init cy (B + 239) ++ (bkX6_init cy (B + 244) ++ (bkX6_init cy (B + 249) ++ (bkX0_init cy (B + 254) (B + 9) ++ (bkX7_init cy (B + 260) (B + 9) (B + 31) (B + 254) ++ (bkX3_init cy (B + 263) (B + 9) (B + 31) (B + 260) ++ (bkX10_init cy (B + 268) (B + 9) (B + 254)))))))))))))))) = qc_go (qc_ad B ax) cy (qt_Sg sc) 0 Lk := by
  rw [qt_split]
  simp only [qc_go_app]
  exact qa rfl (qa rfl (qa rfl (qa rfl (qa rfl (qa rfl (qa rfl (qa (qt_ringE sc cy ax B 40 (Nat.le_refl _)) (qa rfl (qa rfl (qa rfl (qa rfl (qa rfl (qa rfl (qa rfl (rfl)))))))))))))))
def qt_S : qv_St := qt_Sg scr_S
theorem qt_some : (fX11_beginAnew qt_S).isSome = true := by decide +kernel
def qt_S2 : qv_St := (fX11_beginAnew qt_S).get qt_some
theorem qt_S2_eq : fX11_beginAnew qt_S = some qt_S2 := (Option.some_get qt_some).symm
set_option maxRecDepth 100000 in
set_option maxHeartbeats 4000000 in
theorem qt_world (cy ax : Nat → Nat) (B : Nat) : (.inr (11, [.ref (B + 1), .ref (B + 3), .ref (B + 7), .ref (B + 9), .ref (B + 31), .ref (B + 36), .ref (B + 238), .int 0, .ref (B + 254), .ref (B + 260), .ref (B + 263), .ref (B + 268)]) :: qt_r11 cy ax B) = qc_es (qc_ad B ax) cy Lk qt_S := by
  rw [qc_es_go]
  unfold qt_S
  refine Eq.trans ?_ (qt_world_g scr_S cy ax B)
  unfold qt_r11 qt_r10 qt_r9 qt_r8 qt_r7 qt_r6 qt_r5 qt_r4 qt_r3 qt_r2 qt_r1 qt_r0
  unfold bkX1_init hi_es bkX5_init
  rw [qt_ring B ax, qt_slots B ax, qc_es_go]
  simp only [List.append_assoc, List.nil_append, List.cons_append]
set_option maxRecDepth 20000 in
set_option maxHeartbeats 4000000 in
theorem kcX11_init (l : Launch) (D : va_G) (cy ax : Nat → Nat) (B : Nat) : Kc l D cy ax yX11_init cX11_init 2 5 269 10474 [.ref B] B [.inr (11, [.null, .null, .null, .null, .null, .null, .null, .int 0, .null, .null, .null, .null])] (qc_es (qc_ad B ax) cy Lk qt_S2) := by
  refine kc_of (own := RX11) (lv := [(0, .ref B)]) rfl rfl rfl (Nat.le_of_ble_eq_true rfl) rfl rfl (fun X hX => ?_)
  refine qc_eq (es2 := (.inr (11, [.null, .null, .null, .null, .null, .null, .null, .int 0, .null, .null, .null, .null]) :: qt_r0 cy ax B)) rfl ?_
  refine qc_aload_n (n := 1) 0 (dkX11_init (i := 0) rfl) rfl rfl ?_
  refine qc_obj (n := 4) (dkX11_init (i := 1) rfl) rfl qo_1 kob1 kob2 rfl (Nat.le_of_ble_eq_true rfl) ?_
  refine qc_aload_n (n := 5) 0 (dkX11_init (i := 2) rfl) rfl rfl ?_
  refine qc_new (n := 8) (r := 1) tyX8 [.null, .int 0] (dkX11_init (i := 3) rfl) rfl (ci := 8) rfl gnX8 tyX8_ok qdf_8 qcl_8 qin_8 qini_8 rfl rfl (by rw [List.length_cons, qt_l0]) ?_
  refine qc_dup (n := 9) (dkX11_init (i := 4) rfl) rfl rfl ?_
  refine qc_callN (n := 12) (B2 := B + 1) (w := .inr (11, [.null, .null, .null, .null, .null, .null, .null, .int 0, .null, .null, .null, .null]) :: qt_r0 cy ax B) (d := [.inr (8, [.null, .int 0])]) (d2 := bkX8_init cy (B + 1)) (cN2 := 1) (sN2 := 2000) [] (dkX11_init (i := 5) rfl) rfl rfl rfl (by rw [List.length_cons, qt_l0]) rfl rfl rfl (fun A U h => h.2.1) qcv_8 (Nat.le_of_ble_eq_true rfl) rfl rfl rfl rfl (kcX8_init l D cy ax (B + 1)) ?_
  refine qc_putF (n := 15) (v := .ref (B + 1)) (es2 := (.inr (11, [.ref (B + 1), .null, .null, .null, .null, .null, .null, .int 0, .null, .null, .null, .null]) :: qt_r1 cy ax B)) 0 0 (dkX11_init (i := 6) rfl) rfl rfl rfl gnX11 (Nat.le_of_ble_eq_true rfl) qfX11_10 (Nat.le_of_ble_eq_true rfl) tyX11_ok nmX11 rfl rfl rfl rfl rfl ?_
  refine qc_aload_n (n := 16) 0 (dkX11_init (i := 7) rfl) rfl rfl ?_
  refine qc_new (n := 19) (r := 3) tyX9 [.null, .null, .null, .int 0, .int 0] (dkX11_init (i := 8) rfl) rfl (ci := 9) rfl gnX9 tyX9_ok qdf_9 qcl_9 qin_9 qini_9 rfl rfl (by rw [List.length_cons, qt_l1]) ?_
  refine qc_dup (n := 20) (dkX11_init (i := 9) rfl) rfl rfl ?_
  refine qc_callN (n := 23) (B2 := B + 3) (w := .inr (11, [.ref (B + 1), .null, .null, .null, .null, .null, .null, .int 0, .null, .null, .null, .null]) :: qt_r1 cy ax B) (d := [.inr (9, [.null, .null, .null, .int 0, .int 0])]) (d2 := bkX9_init cy (B + 3)) (cN2 := 3) (sN2 := 1203) [] (dkX11_init (i := 10) rfl) rfl rfl rfl (by rw [List.length_cons, qt_l1]) rfl rfl rfl (fun A U h => h.2.2.1) qcv_9 (Nat.le_of_ble_eq_true rfl) rfl rfl rfl rfl (kcX9_init l D cy ax (B + 3)) ?_
  refine qc_putF (n := 26) (v := .ref (B + 3)) (es2 := (.inr (11, [.ref (B + 1), .ref (B + 3), .null, .null, .null, .null, .null, .int 0, .null, .null, .null, .null]) :: qt_r2 cy ax B)) 0 1 (dkX11_init (i := 11) rfl) rfl rfl rfl gnX11 (Nat.le_of_ble_eq_true rfl) qfX11_19 (Nat.le_of_ble_eq_true rfl) tyX11_ok nmX11 rfl rfl rfl rfl rfl ?_
  refine qc_aload_n (n := 27) 0 (dkX11_init (i := 12) rfl) rfl rfl ?_
  refine qc_new (n := 30) (r := 7) tyX4 [.null, .null, .int 0, .int 0, .int 0, .int 0, .int 0, .int 0, .int 0, .int 0] (dkX11_init (i := 13) rfl) rfl (ci := 4) rfl gnX4 tyX4_ok qdf_4 qcl_4 qin_4 qini_4 rfl rfl (by rw [List.length_cons, qt_l2]) ?_
  refine qc_dup (n := 31) (dkX11_init (i := 14) rfl) rfl rfl ?_
  refine qc_aload_n (n := 32) 0 (dkX11_init (i := 15) rfl) rfl rfl ?_
  refine qc_get (n := 35) 0 1 (.ref (B + 3)) (dkX11_init (i := 16) rfl) rfl rfl rfl gnX11 (Nat.le_of_ble_eq_true rfl) qfX11_19 rfl ?_
  refine qc_callI (n := 38) (B2 := B + 7) (w := .inr (11, [.ref (B + 1), .ref (B + 3), .null, .null, .null, .null, .null, .int 0, .null, .null, .null, .null]) :: qt_r2 cy ax B) (d := [.inr (4, [.null, .null, .int 0, .int 0, .int 0, .int 0, .int 0, .int 0, .int 0, .int 0])]) (d2 := bkX4_init cy (B + 7) (B + 3)) (cN2 := 1) (sN2 := 18) [.ref (B + 3)] (dkX11_init (i := 17) rfl) rfl rfl rfl (by rw [List.length_cons, qt_l2]) rfl rfl rfl qcv_4 (Nat.le_of_ble_eq_true rfl) rfl rfl rfl rfl (kcX4_init l D cy ax (B + 7) (B + 3)) ?_
  refine qc_putF (n := 41) (v := .ref (B + 7)) (es2 := (.inr (11, [.ref (B + 1), .ref (B + 3), .ref (B + 7), .null, .null, .null, .null, .int 0, .null, .null, .null, .null]) :: qt_r3 cy ax B)) 0 2 (dkX11_init (i := 18) rfl) rfl rfl rfl gnX11 (Nat.le_of_ble_eq_true rfl) qfX11_28 (Nat.le_of_ble_eq_true rfl) tyX11_ok nmX11 rfl rfl rfl rfl rfl ?_
  refine qc_aload_n (n := 42) 0 (dkX11_init (i := 19) rfl) rfl rfl ?_
  refine qc_new (n := 45) (r := 9) tyX5 [.int 0, .int 0, .int 0, .null, .null, .null, .null, .null, .null, .null, .null, .null, .null, .null, .null, .int 0, .int 0, .int 0] (dkX11_init (i := 20) rfl) rfl (ci := 5) rfl gnX5 tyX5_ok qdf_5 qcl_5 qin_5 qini_5 rfl rfl (by rw [List.length_cons, qt_l3]) ?_
  refine qc_dup (n := 46) (dkX11_init (i := 21) rfl) rfl rfl ?_
  refine qc_callI (n := 49) (B2 := B + 9) (w := .inr (11, [.ref (B + 1), .ref (B + 3), .ref (B + 7), .null, .null, .null, .null, .int 0, .null, .null, .null, .null]) :: qt_r3 cy ax B) (d := [.inr (5, [.int 0, .int 0, .int 0, .null, .null, .null, .null, .null, .null, .null, .null, .null, .null, .null, .null, .int 0, .int 0, .int 0])]) (d2 := bkX5_init cy ax (B + 9)) (cN2 := 21) (sN2 := 1471) [] (dkX11_init (i := 22) rfl) rfl rfl rfl (by rw [List.length_cons, qt_l3]) (by simp [bkX5_init, qc_es]; rfl) rfl rfl qcv_5 (Nat.le_of_ble_eq_true rfl) rfl rfl rfl rfl (kcX5_init l D cy ax (B + 9)) ?_
  refine qc_putF (n := 52) (v := .ref (B + 9)) (es2 := (.inr (11, [.ref (B + 1), .ref (B + 3), .ref (B + 7), .ref (B + 9), .null, .null, .null, .int 0, .null, .null, .null, .null]) :: qt_r4 cy ax B)) 0 3 (dkX11_init (i := 23) rfl) rfl rfl rfl gnX11 (Nat.le_of_ble_eq_true rfl) qfX11_35 (Nat.le_of_ble_eq_true rfl) tyX11_ok nmX11 rfl rfl rfl rfl rfl ?_
  refine qc_aload_n (n := 53) 0 (dkX11_init (i := 24) rfl) rfl rfl ?_
  refine qc_new (n := 56) (r := 31) tyX6 [.int 0, .int 0, .int 0, .int 0, .null, .null, .null, .null] (dkX11_init (i := 25) rfl) rfl (ci := 6) rfl gnX6 tyX6_ok qdf_6 qcl_6 qin_6 qini_6 rfl rfl (by rw [List.length_cons, qt_l4]) ?_
  refine qc_dup (n := 57) (dkX11_init (i := 26) rfl) rfl rfl ?_
  refine qc_callN (n := 60) (B2 := B + 31) (w := .inr (11, [.ref (B + 1), .ref (B + 3), .ref (B + 7), .ref (B + 9), .null, .null, .null, .int 0, .null, .null, .null, .null]) :: qt_r4 cy ax B) (d := [.inr (6, [.int 0, .int 0, .int 0, .int 0, .null, .null, .null, .null])]) (d2 := bkX6_init cy (B + 31)) (cN2 := 4) (sN2 := 26) [] (dkX11_init (i := 27) rfl) rfl rfl rfl (by rw [List.length_cons, qt_l4]) rfl rfl rfl (fun A U h => h.2.2.2.2.1) qcv_6 (Nat.le_of_ble_eq_true rfl) rfl rfl rfl rfl (kcX6_init l D cy ax (B + 31)) ?_
  refine qc_putF (n := 63) (v := .ref (B + 31)) (es2 := (.inr (11, [.ref (B + 1), .ref (B + 3), .ref (B + 7), .ref (B + 9), .ref (B + 31), .null, .null, .int 0, .null, .null, .null, .null]) :: qt_r5 cy ax B)) 0 4 (dkX11_init (i := 28) rfl) rfl rfl rfl gnX11 (Nat.le_of_ble_eq_true rfl) qfX11_42 (Nat.le_of_ble_eq_true rfl) tyX11_ok nmX11 rfl rfl rfl rfl rfl ?_
  refine qc_aload_n (n := 64) 0 (dkX11_init (i := 29) rfl) rfl rfl ?_
  refine qc_new (n := 67) (r := 36) tyX1 [.null, .int 0, .int 0] (dkX11_init (i := 30) rfl) rfl (ci := 1) rfl gnX1 tyX1_ok qdf_1 qcl_1 qin_1 qini_1 rfl rfl (by rw [List.length_cons, qt_l5]) ?_
  refine qc_dup (n := 68) (dkX11_init (i := 31) rfl) rfl rfl ?_
  refine qc_callI (n := 71) (B2 := B + 36) (w := .inr (11, [.ref (B + 1), .ref (B + 3), .ref (B + 7), .ref (B + 9), .ref (B + 31), .null, .null, .int 0, .null, .null, .null, .null]) :: qt_r5 cy ax B) (d := [.inr (1, [.null, .int 0, .int 0])]) (d2 := bkX1_init cy (B + 36)) (cN2 := 201) (sN2 := 1400) [] (dkX11_init (i := 32) rfl) rfl rfl rfl (by rw [List.length_cons, qt_l5]) (by rw [hi_esl]; rfl) rfl rfl qcv_1 (Nat.le_of_ble_eq_true rfl) rfl rfl rfl rfl (kcX1_init l D cy ax (B + 36)) ?_
  refine qc_putF (n := 74) (v := .ref (B + 36)) (es2 := (.inr (11, [.ref (B + 1), .ref (B + 3), .ref (B + 7), .ref (B + 9), .ref (B + 31), .ref (B + 36), .null, .int 0, .null, .null, .null, .null]) :: qt_r6 cy ax B)) 0 5 (dkX11_init (i := 33) rfl) rfl rfl rfl gnX11 (Nat.le_of_ble_eq_true rfl) qfX11_49 (Nat.le_of_ble_eq_true rfl) tyX11_ok nmX11 rfl rfl rfl rfl rfl ?_
  refine qc_aload_n (n := 75) 0 (dkX11_init (i := 34) rfl) rfl rfl ?_
  refine qc_iconst (n := 76) 3 (dkX11_init (i := 35) rfl) rfl (by decide) ?_
  refine qc_arrq (n := 79) (N := 3) (r := 238) (dkX11_init (i := 36) rfl) rfl qcl_6 (by decide) (by decide) (by decide) rfl rfl (by rw [List.length_cons, qt_l6]) ?_
  refine qc_putF (n := 82) (v := .ref (B + 238)) (es2 := (.inr (11, [.ref (B + 1), .ref (B + 3), .ref (B + 7), .ref (B + 9), .ref (B + 31), .ref (B + 36), .ref (B + 238), .int 0, .null, .null, .null, .null]) :: (qt_r6 cy ax B ++ .inl (cy 4, 3, .inr (.inr (.inr (.inr (fun _ => none))))) :: []))) 0 6 (dkX11_init (i := 37) rfl) rfl rfl rfl gnX11 (Nat.le_of_ble_eq_true rfl) qfX11_53 (Nat.le_of_ble_eq_true rfl) tyX11_ok nmX11 rfl rfl rfl rfl rfl ?_
  refine qc_iconst (n := 83) 0 (dkX11_init (i := 38) rfl) rfl (by decide) ?_
  refine qc_istore_n (n := 84) (lv2 := [(0, .ref B), (1, .int 0)]) [1, 0] (dkX11_init (i := 39) rfl) rfl rfl (by decide) rfl ?_
  refine qc_iload_n (n := 85) 1 (dkX11_init (i := 40) rfl) rfl rfl ?_
  refine qc_iconst (n := 86) 3 (dkX11_init (i := 41) rfl) rfl (by decide) ?_
  refine qc_icmp_ge (t := 108) (n := 89) (dkX11_init (i := 42) rfl) (by decide) rfl (fun h => absurd h (by decide)) (fun _ => ?_)
  refine qc_aload_n (n := 90) 0 (dkX11_init (i := 43) rfl) rfl rfl ?_
  refine qc_get (n := 93) 0 6 (.ref (B + 238)) (dkX11_init (i := 44) rfl) rfl rfl rfl gnX11 (Nat.le_of_ble_eq_true rfl) qfX11_53 rfl ?_
  refine qc_iload_n (n := 94) 1 (dkX11_init (i := 45) rfl) rfl rfl ?_
  refine qc_new (n := 97) (r := 239) tyX6 [.int 0, .int 0, .int 0, .int 0, .null, .null, .null, .null] (dkX11_init (i := 46) rfl) rfl (ci := 6) rfl gnX6 tyX6_ok qdf_6 qcl_6 qin_6 qini_6 rfl rfl (by rw [List.length_cons, List.length_append, qt_l6]; rfl) ?_
  refine qc_dup (n := 98) (dkX11_init (i := 47) rfl) rfl rfl ?_
  refine qc_callN (n := 101) (B2 := B + 239) (w := (.inr (11, [.ref (B + 1), .ref (B + 3), .ref (B + 7), .ref (B + 9), .ref (B + 31), .ref (B + 36), .ref (B + 238), .int 0, .null, .null, .null, .null]) :: (qt_r6 cy ax B ++ .inl (cy 4, 3, .inr (.inr (.inr (.inr (fun _ => none))))) :: []))) (d := [.inr (6, [.int 0, .int 0, .int 0, .int 0, .null, .null, .null, .null])]) (d2 := bkX6_init cy (B + 239)) (cN2 := 4) (sN2 := 26) [] (dkX11_init (i := 48) rfl) rfl rfl rfl (by rw [List.length_cons, List.length_append, qt_l6]; rfl) rfl rfl rfl (fun A U h => h.2.2.2.2.1) qcv_6 (Nat.le_of_ble_eq_true rfl) rfl rfl rfl rfl (kcX6_init l D cy ax (B + 239)) ?_
  refine qc_eq (es2 := (.inr (11, [.ref (B + 1), .ref (B + 3), .ref (B + 7), .ref (B + 9), .ref (B + 31), .ref (B + 36), .ref (B + 238), .int 0, .null, .null, .null, .null]) :: (qt_r6 cy ax B ++ .inl (cy 4, 3, .inr (.inr (.inr (.inr (fun _ => none))))) :: (bkX6_init cy (B + 239))))) (by rw [List.cons_append, List.append_assoc]; rfl) ?_
  refine qc_aast (n := 102) 238 239 (N := 3) (f := (fun _ => none)) (ci := 6) (vs := [.int 0, .int 0, .int 0, .int 0, .ref (B + 239 + 1), .ref (B + 239 + 2), .ref (B + 239 + 3), .ref (B + 239 + 4)]) (es2 := (.inr (11, [.ref (B + 1), .ref (B + 3), .ref (B + 7), .ref (B + 9), .ref (B + 31), .ref (B + 36), .ref (B + 238), .int 0, .null, .null, .null, .null]) :: (qt_r6 cy ax B ++ .inl (cy 4, 3, .inr (.inr (.inr (.inr (va_up (fun _ => none) 0 (some (B + 239))))))) :: (bkX6_init cy (B + 239))))) (dkX11_init (i := 49) rfl) rfl (qt_at (qt_l6 cy ax B)) (by rw [List.getElem?_cons_succ, List.getElem?_append_right (by rw [qt_l6]; decide), qt_l6]; rfl) rfl (qv_in_iff.mp rfl) (qt_set (qt_l6 cy ax B)) ?_
  refine qc_iinc (n := 105) (v := 1) (lv2 := [(0, .ref B), (1, .int 1)]) 1 [1, 0] (dkX11_init (i := 50) rfl) rfl rfl (by decide) (by decide) rfl ?_
  refine qc_goto (n := 84) (dkX11_init (i := 51) rfl) (by decide) ?_
  refine qc_iload_n (n := 85) 1 (dkX11_init (i := 40) rfl) rfl rfl ?_
  refine qc_iconst (n := 86) 3 (dkX11_init (i := 41) rfl) rfl (by decide) ?_
  refine qc_icmp_ge (t := 108) (n := 89) (dkX11_init (i := 42) rfl) (by decide) rfl (fun h => absurd h (by decide)) (fun _ => ?_)
  refine qc_aload_n (n := 90) 0 (dkX11_init (i := 43) rfl) rfl rfl ?_
  refine qc_get (n := 93) 0 6 (.ref (B + 238)) (dkX11_init (i := 44) rfl) rfl rfl rfl gnX11 (Nat.le_of_ble_eq_true rfl) qfX11_53 rfl ?_
  refine qc_iload_n (n := 94) 1 (dkX11_init (i := 45) rfl) rfl rfl ?_
  refine qc_new (n := 97) (r := 244) tyX6 [.int 0, .int 0, .int 0, .int 0, .null, .null, .null, .null] (dkX11_init (i := 46) rfl) rfl (ci := 6) rfl gnX6 tyX6_ok qdf_6 qcl_6 qin_6 qini_6 rfl rfl (by rw [List.length_cons, List.length_append, qt_l6]; rfl) ?_
  refine qc_dup (n := 98) (dkX11_init (i := 47) rfl) rfl rfl ?_
  refine qc_callN (n := 101) (B2 := B + 244) (w := (.inr (11, [.ref (B + 1), .ref (B + 3), .ref (B + 7), .ref (B + 9), .ref (B + 31), .ref (B + 36), .ref (B + 238), .int 0, .null, .null, .null, .null]) :: (qt_r6 cy ax B ++ .inl (cy 4, 3, .inr (.inr (.inr (.inr (va_up (fun _ => none) 0 (some (B + 239))))))) :: (bkX6_init cy (B + 239))))) (d := [.inr (6, [.int 0, .int 0, .int 0, .int 0, .null, .null, .null, .null])]) (d2 := bkX6_init cy (B + 244)) (cN2 := 4) (sN2 := 26) [] (dkX11_init (i := 48) rfl) rfl rfl rfl (by rw [List.length_cons, List.length_append, qt_l6]; rfl) rfl rfl rfl (fun A U h => h.2.2.2.2.1) qcv_6 (Nat.le_of_ble_eq_true rfl) rfl rfl rfl rfl (kcX6_init l D cy ax (B + 244)) ?_
  refine qc_eq (es2 := (.inr (11, [.ref (B + 1), .ref (B + 3), .ref (B + 7), .ref (B + 9), .ref (B + 31), .ref (B + 36), .ref (B + 238), .int 0, .null, .null, .null, .null]) :: (qt_r6 cy ax B ++ .inl (cy 4, 3, .inr (.inr (.inr (.inr (va_up (fun _ => none) 0 (some (B + 239))))))) :: (bkX6_init cy (B + 239) ++ bkX6_init cy (B + 244))))) (by rw [List.cons_append, List.append_assoc]; rfl) ?_
  refine qc_aast (n := 102) 238 244 (N := 3) (f := (va_up (fun _ => none) 0 (some (B + 239)))) (ci := 6) (vs := [.int 0, .int 0, .int 0, .int 0, .ref (B + 244 + 1), .ref (B + 244 + 2), .ref (B + 244 + 3), .ref (B + 244 + 4)]) (es2 := (.inr (11, [.ref (B + 1), .ref (B + 3), .ref (B + 7), .ref (B + 9), .ref (B + 31), .ref (B + 36), .ref (B + 238), .int 0, .null, .null, .null, .null]) :: (qt_r6 cy ax B ++ .inl (cy 4, 3, .inr (.inr (.inr (.inr (va_up (va_up (fun _ => none) 0 (some (B + 239))) 1 (some (B + 244))))))) :: (bkX6_init cy (B + 239) ++ bkX6_init cy (B + 244))))) (dkX11_init (i := 49) rfl) rfl (qt_at (qt_l6 cy ax B)) (by rw [List.getElem?_cons_succ, List.getElem?_append_right (by rw [qt_l6]; decide), qt_l6]; rfl) rfl (qv_in_iff.mp rfl) (qt_set (qt_l6 cy ax B)) ?_
  refine qc_iinc (n := 105) (v := 2) (lv2 := [(0, .ref B), (1, .int 2)]) 1 [1, 0] (dkX11_init (i := 50) rfl) rfl rfl (by decide) (by decide) rfl ?_
  refine qc_goto (n := 84) (dkX11_init (i := 51) rfl) (by decide) ?_
  refine qc_iload_n (n := 85) 1 (dkX11_init (i := 40) rfl) rfl rfl ?_
  refine qc_iconst (n := 86) 3 (dkX11_init (i := 41) rfl) rfl (by decide) ?_
  refine qc_icmp_ge (t := 108) (n := 89) (dkX11_init (i := 42) rfl) (by decide) rfl (fun h => absurd h (by decide)) (fun _ => ?_)
  refine qc_aload_n (n := 90) 0 (dkX11_init (i := 43) rfl) rfl rfl ?_
  refine qc_get (n := 93) 0 6 (.ref (B + 238)) (dkX11_init (i := 44) rfl) rfl rfl rfl gnX11 (Nat.le_of_ble_eq_true rfl) qfX11_53 rfl ?_
  refine qc_iload_n (n := 94) 1 (dkX11_init (i := 45) rfl) rfl rfl ?_
  refine qc_new (n := 97) (r := 249) tyX6 [.int 0, .int 0, .int 0, .int 0, .null, .null, .null, .null] (dkX11_init (i := 46) rfl) rfl (ci := 6) rfl gnX6 tyX6_ok qdf_6 qcl_6 qin_6 qini_6 rfl rfl (by rw [List.length_cons, List.length_append, qt_l6]; rfl) ?_
  refine qc_dup (n := 98) (dkX11_init (i := 47) rfl) rfl rfl ?_
  refine qc_callN (n := 101) (B2 := B + 249) (w := (.inr (11, [.ref (B + 1), .ref (B + 3), .ref (B + 7), .ref (B + 9), .ref (B + 31), .ref (B + 36), .ref (B + 238), .int 0, .null, .null, .null, .null]) :: (qt_r6 cy ax B ++ .inl (cy 4, 3, .inr (.inr (.inr (.inr (va_up (va_up (fun _ => none) 0 (some (B + 239))) 1 (some (B + 244))))))) :: (bkX6_init cy (B + 239) ++ bkX6_init cy (B + 244))))) (d := [.inr (6, [.int 0, .int 0, .int 0, .int 0, .null, .null, .null, .null])]) (d2 := bkX6_init cy (B + 249)) (cN2 := 4) (sN2 := 26) [] (dkX11_init (i := 48) rfl) rfl rfl rfl (by rw [List.length_cons, List.length_append, qt_l6]; rfl) rfl rfl rfl (fun A U h => h.2.2.2.2.1) qcv_6 (Nat.le_of_ble_eq_true rfl) rfl rfl rfl rfl (kcX6_init l D cy ax (B + 249)) ?_
  refine qc_eq (es2 := (.inr (11, [.ref (B + 1), .ref (B + 3), .ref (B + 7), .ref (B + 9), .ref (B + 31), .ref (B + 36), .ref (B + 238), .int 0, .null, .null, .null, .null]) :: (qt_r6 cy ax B ++ .inl (cy 4, 3, .inr (.inr (.inr (.inr (va_up (va_up (fun _ => none) 0 (some (B + 239))) 1 (some (B + 244))))))) :: (bkX6_init cy (B + 239) ++ bkX6_init cy (B + 244) ++ bkX6_init cy (B + 249))))) (by rw [List.cons_append, List.append_assoc]; rfl) ?_
  refine qc_aast (n := 102) 238 249 (N := 3) (f := (va_up (va_up (fun _ => none) 0 (some (B + 239))) 1 (some (B + 244)))) (ci := 6) (vs := [.int 0, .int 0, .int 0, .int 0, .ref (B + 249 + 1), .ref (B + 249 + 2), .ref (B + 249 + 3), .ref (B + 249 + 4)]) (es2 := (.inr (11, [.ref (B + 1), .ref (B + 3), .ref (B + 7), .ref (B + 9), .ref (B + 31), .ref (B + 36), .ref (B + 238), .int 0, .null, .null, .null, .null]) :: (qt_r6 cy ax B ++ .inl (cy 4, 3, .inr (.inr (.inr (.inr (va_up (va_up (va_up (fun _ => none) 0 (some (B + 239))) 1 (some (B + 244))) 2 (some (B + 249))))))) :: (bkX6_init cy (B + 239) ++ bkX6_init cy (B + 244) ++ bkX6_init cy (B + 249))))) (dkX11_init (i := 49) rfl) rfl (qt_at (qt_l6 cy ax B)) (by rw [List.getElem?_cons_succ, List.getElem?_append_right (by rw [qt_l6]; decide), qt_l6]; rfl) rfl (qv_in_iff.mp rfl) (qt_set (qt_l6 cy ax B)) ?_
  refine qc_iinc (n := 105) (v := 3) (lv2 := [(0, .ref B), (1, .int 3)]) 1 [1, 0] (dkX11_init (i := 50) rfl) rfl rfl (by decide) (by decide) rfl ?_
  refine qc_goto (n := 84) (dkX11_init (i := 51) rfl) (by decide) ?_
  refine qc_iload_n (n := 85) 1 (dkX11_init (i := 40) rfl) rfl rfl ?_
  refine qc_iconst (n := 86) 3 (dkX11_init (i := 41) rfl) rfl (by decide) ?_
  refine qc_icmp_ge (t := 108) (n := 89) (dkX11_init (i := 42) rfl) (by decide) rfl (fun _ => ?_) (fun h => absurd (by decide) h)
  refine qc_eq (es2 := (.inr (11, [.ref (B + 1), .ref (B + 3), .ref (B + 7), .ref (B + 9), .ref (B + 31), .ref (B + 36), .ref (B + 238), .int 0, .null, .null, .null, .null]) :: qt_r7 cy ax B)) rfl ?_
  refine qc_lv (lv2 := [(0, .ref B)]) [0] rfl ?_
  refine qc_aload_n (n := 109) 0 (dkX11_init (i := 52) rfl) rfl rfl ?_
  refine qc_new (n := 112) (r := 254) tyX0 [.null, .null, .null, .null, .null, .null, .int 0] (dkX11_init (i := 53) rfl) rfl (ci := 0) rfl gnX0 tyX0_ok qdf_0 qcl_0 qin_0 qini_0 rfl rfl (by rw [List.length_cons, qt_l7]) ?_
  refine qc_dup (n := 113) (dkX11_init (i := 54) rfl) rfl rfl ?_
  refine qc_aload_n (n := 114) 0 (dkX11_init (i := 55) rfl) rfl rfl ?_
  refine qc_get (n := 117) 0 3 (.ref (B + 9)) (dkX11_init (i := 56) rfl) rfl rfl rfl gnX11 (Nat.le_of_ble_eq_true rfl) qfX11_35 rfl ?_
  refine qc_callI (n := 120) (B2 := B + 254) (w := .inr (11, [.ref (B + 1), .ref (B + 3), .ref (B + 7), .ref (B + 9), .ref (B + 31), .ref (B + 36), .ref (B + 238), .int 0, .null, .null, .null, .null]) :: qt_r7 cy ax B) (d := [.inr (0, [.null, .null, .null, .null, .null, .null, .int 0])]) (d2 := bkX0_init cy (B + 254) (B + 9)) (cN2 := 5) (sN2 := 43) [.ref (B + 9)] (dkX11_init (i := 57) rfl) rfl rfl rfl (by rw [List.length_cons, qt_l7]) rfl rfl rfl qcv_0 (Nat.le_of_ble_eq_true rfl) rfl rfl rfl rfl (kcX0_init l D cy ax (B + 254) (B + 9)) ?_
  refine qc_putF (n := 123) (v := .ref (B + 254)) (es2 := (.inr (11, [.ref (B + 1), .ref (B + 3), .ref (B + 7), .ref (B + 9), .ref (B + 31), .ref (B + 36), .ref (B + 238), .int 0, .ref (B + 254), .null, .null, .null]) :: qt_r8 cy ax B)) 0 8 (dkX11_init (i := 58) rfl) rfl rfl rfl gnX11 (Nat.le_of_ble_eq_true rfl) qfX11_62 (Nat.le_of_ble_eq_true rfl) tyX11_ok nmX11 rfl rfl rfl rfl rfl ?_
  refine qc_aload_n (n := 124) 0 (dkX11_init (i := 59) rfl) rfl rfl ?_
  refine qc_new (n := 127) (r := 260) tyX7 [.null, .null, .null, .null, .null, .int 0] (dkX11_init (i := 60) rfl) rfl (ci := 7) rfl gnX7 tyX7_ok qdf_7 qcl_7 qin_7 qini_7 rfl rfl (by rw [List.length_cons, qt_l8]) ?_
  refine qc_dup (n := 128) (dkX11_init (i := 61) rfl) rfl rfl ?_
  refine qc_aload_n (n := 129) 0 (dkX11_init (i := 62) rfl) rfl rfl ?_
  refine qc_get (n := 132) 0 3 (.ref (B + 9)) (dkX11_init (i := 63) rfl) rfl rfl rfl gnX11 (Nat.le_of_ble_eq_true rfl) qfX11_35 rfl ?_
  refine qc_aload_n (n := 133) 0 (dkX11_init (i := 64) rfl) rfl rfl ?_
  refine qc_get (n := 136) 0 4 (.ref (B + 31)) (dkX11_init (i := 65) rfl) rfl rfl rfl gnX11 (Nat.le_of_ble_eq_true rfl) qfX11_42 rfl ?_
  refine qc_aload_n (n := 137) 0 (dkX11_init (i := 66) rfl) rfl rfl ?_
  refine qc_get (n := 140) 0 8 (.ref (B + 254)) (dkX11_init (i := 67) rfl) rfl rfl rfl gnX11 (Nat.le_of_ble_eq_true rfl) qfX11_62 rfl ?_
  refine qc_callI (n := 143) (B2 := B + 260) (w := .inr (11, [.ref (B + 1), .ref (B + 3), .ref (B + 7), .ref (B + 9), .ref (B + 31), .ref (B + 36), .ref (B + 238), .int 0, .ref (B + 254), .null, .null, .null]) :: qt_r8 cy ax B) (d := [.inr (7, [.null, .null, .null, .null, .null, .int 0])]) (d2 := bkX7_init cy (B + 260) (B + 9) (B + 31) (B + 254)) (cN2 := 2) (sN2 := 3090) [.ref (B + 9), .ref (B + 31), .ref (B + 254)] (dkX11_init (i := 68) rfl) rfl rfl rfl (by rw [List.length_cons, qt_l8]) rfl rfl rfl qcv_7 (Nat.le_of_ble_eq_true rfl) rfl rfl rfl rfl (kcX7_init l D cy ax (B + 260) (B + 9) (B + 31) (B + 254)) ?_
  refine qc_putF (n := 146) (v := .ref (B + 260)) (es2 := (.inr (11, [.ref (B + 1), .ref (B + 3), .ref (B + 7), .ref (B + 9), .ref (B + 31), .ref (B + 36), .ref (B + 238), .int 0, .ref (B + 254), .ref (B + 260), .null, .null]) :: qt_r9 cy ax B)) 0 9 (dkX11_init (i := 69) rfl) rfl rfl rfl gnX11 (Nat.le_of_ble_eq_true rfl) qfX11_71 (Nat.le_of_ble_eq_true rfl) tyX11_ok nmX11 rfl rfl rfl rfl rfl ?_
  refine qc_aload_n (n := 147) 0 (dkX11_init (i := 70) rfl) rfl rfl ?_
  refine qc_new (n := 150) (r := 263) tyX3 [.null, .null, .null, .null, .null, .null, .null, .int 0] (dkX11_init (i := 71) rfl) rfl (ci := 3) rfl gnX3 tyX3_ok qdf_3 qcl_3 qin_3 qini_3 rfl rfl (by rw [List.length_cons, qt_l9]) ?_
  refine qc_dup (n := 151) (dkX11_init (i := 72) rfl) rfl rfl ?_
  refine qc_aload_n (n := 152) 0 (dkX11_init (i := 73) rfl) rfl rfl ?_
  refine qc_get (n := 155) 0 3 (.ref (B + 9)) (dkX11_init (i := 74) rfl) rfl rfl rfl gnX11 (Nat.le_of_ble_eq_true rfl) qfX11_35 rfl ?_
  refine qc_aload_n (n := 156) 0 (dkX11_init (i := 75) rfl) rfl rfl ?_
  refine qc_get (n := 159) 0 4 (.ref (B + 31)) (dkX11_init (i := 76) rfl) rfl rfl rfl gnX11 (Nat.le_of_ble_eq_true rfl) qfX11_42 rfl ?_
  refine qc_aload_n (n := 160) 0 (dkX11_init (i := 77) rfl) rfl rfl ?_
  refine qc_get (n := 163) 0 9 (.ref (B + 260)) (dkX11_init (i := 78) rfl) rfl rfl rfl gnX11 (Nat.le_of_ble_eq_true rfl) qfX11_71 rfl ?_
  refine qc_callI (n := 166) (B2 := B + 263) (w := .inr (11, [.ref (B + 1), .ref (B + 3), .ref (B + 7), .ref (B + 9), .ref (B + 31), .ref (B + 36), .ref (B + 238), .int 0, .ref (B + 254), .ref (B + 260), .null, .null]) :: qt_r9 cy ax B) (d := [.inr (3, [.null, .null, .null, .null, .null, .null, .null, .int 0])]) (d2 := bkX3_init cy (B + 263) (B + 9) (B + 31) (B + 260)) (cN2 := 4) (sN2 := 47) [.ref (B + 9), .ref (B + 31), .ref (B + 260)] (dkX11_init (i := 79) rfl) rfl rfl rfl (by rw [List.length_cons, qt_l9]) rfl rfl rfl qcv_3 (Nat.le_of_ble_eq_true rfl) rfl rfl rfl rfl (kcX3_init l D cy ax (B + 263) (B + 9) (B + 31) (B + 260)) ?_
  refine qc_putF (n := 169) (v := .ref (B + 263)) (es2 := (.inr (11, [.ref (B + 1), .ref (B + 3), .ref (B + 7), .ref (B + 9), .ref (B + 31), .ref (B + 36), .ref (B + 238), .int 0, .ref (B + 254), .ref (B + 260), .ref (B + 263), .null]) :: qt_r10 cy ax B)) 0 10 (dkX11_init (i := 80) rfl) rfl rfl rfl gnX11 (Nat.le_of_ble_eq_true rfl) qfX11_80 (Nat.le_of_ble_eq_true rfl) tyX11_ok nmX11 rfl rfl rfl rfl rfl ?_
  refine qc_aload_n (n := 170) 0 (dkX11_init (i := 81) rfl) rfl rfl ?_
  refine qc_new (n := 173) (r := 268) tyX10 [.null, .null, .null, .int 0] (dkX11_init (i := 82) rfl) rfl (ci := 10) rfl gnX10 tyX10_ok qdf_10 qcl_10 qin_10 qini_10 rfl rfl (by rw [List.length_cons, qt_l10]) ?_
  refine qc_dup (n := 174) (dkX11_init (i := 83) rfl) rfl rfl ?_
  refine qc_aload_n (n := 175) 0 (dkX11_init (i := 84) rfl) rfl rfl ?_
  refine qc_get (n := 178) 0 3 (.ref (B + 9)) (dkX11_init (i := 85) rfl) rfl rfl rfl gnX11 (Nat.le_of_ble_eq_true rfl) qfX11_35 rfl ?_
  refine qc_aload_n (n := 179) 0 (dkX11_init (i := 86) rfl) rfl rfl ?_
  refine qc_get (n := 182) 0 8 (.ref (B + 254)) (dkX11_init (i := 87) rfl) rfl rfl rfl gnX11 (Nat.le_of_ble_eq_true rfl) qfX11_62 rfl ?_
  refine qc_callI (n := 185) (B2 := B + 268) (w := .inr (11, [.ref (B + 1), .ref (B + 3), .ref (B + 7), .ref (B + 9), .ref (B + 31), .ref (B + 36), .ref (B + 238), .int 0, .ref (B + 254), .ref (B + 260), .ref (B + 263), .null]) :: qt_r10 cy ax B) (d := [.inr (10, [.null, .null, .null, .int 0])]) (d2 := bkX10_init cy (B + 268) (B + 9) (B + 254)) (cN2 := 1) (sN2 := 1000) [.ref (B + 9), .ref (B + 254)] (dkX11_init (i := 88) rfl) rfl rfl rfl (by rw [List.length_cons, qt_l10]) rfl rfl rfl qcv_10 (Nat.le_of_ble_eq_true rfl) rfl rfl rfl rfl (kcX10_init l D cy ax (B + 268) (B + 9) (B + 254)) ?_
  refine qc_putF (n := 188) (v := .ref (B + 268)) (es2 := (.inr (11, [.ref (B + 1), .ref (B + 3), .ref (B + 7), .ref (B + 9), .ref (B + 31), .ref (B + 36), .ref (B + 238), .int 0, .ref (B + 254), .ref (B + 260), .ref (B + 263), .ref (B + 268)]) :: qt_r11 cy ax B)) 0 11 (dkX11_init (i := 89) rfl) rfl rfl rfl gnX11 (Nat.le_of_ble_eq_true rfl) qfX11_89 (Nat.le_of_ble_eq_true rfl) tyX11_ok nmX11 rfl rfl rfl rfl rfl ?_
  refine qc_vv (L := Lk) (S := qt_S) (o := (fX11_beginAnew qt_S).bind fun S1 => some S1) rfl rfl hX (by rw [show Lk.length = 270 from rfl]) rfl rfl (qt_world cy ax B) (by rw [qt_S2_eq]; rfl) ?_
  refine qr_aload_n (n := 189) 0 (dkX11_init (i := 90) rfl) rfl rfl ?_
  refine qr_cvu (n := 192) 0 [] (dkX11_init (i := 91) rfl) rfl qvX11_93 rfl rfl (Nat.le_of_ble_eq_true rfl) rfl rfl lkO_0 rfl (wX11_beginAnew (l, D, qc_ad B ax, cy) qt_S) (fun S1 => ?_)
  exact qr_vret (dkX11_init (i := 92) rfl) rfl rfl
