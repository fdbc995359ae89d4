theorem kob1 : Cond.instanceMethod Lib.objectInit ∈ gw_tbl := gw_ix 124 (by decide +kernel)
theorem kob2 : Cond.code Lib.objectInit ⟨#[0xb1]⟩ 1 none ∈ gw_tbl := gw_ix 125 (by decide +kernel)
theorem kac0 : Cond.arrayClass .int ∈ gw_tbl := gw_ix 167 (by decide +kernel)
theorem kac1 : Cond.arrayClass .byte ∈ gw_tbl := gw_ix 141 (by decide +kernel)
theorem kac2 : Cond.arrayClass .boolean ∈ gw_tbl := gw_ix 236 (by decide +kernel)
theorem kac3 : Cond.arrayClass .long ∈ gw_tbl := gw_ix 168 (by decide +kernel)
theorem koX0_3 : Cond.methodLink RX0 3 Lib.objectInit ∈ gw_tbl := gw_ix 402 (by decide +kernel)
theorem koX2_3 : Cond.methodLink RX2 3 Lib.objectInit ∈ gw_tbl := gw_ix 219 (by decide +kernel)
theorem koX3_3 : Cond.methodLink RX3 3 Lib.objectInit ∈ gw_tbl := gw_ix 455 (by decide +kernel)
theorem koX4_3 : Cond.methodLink RX4 3 Lib.objectInit ∈ gw_tbl := gw_ix 174 (by decide +kernel)
theorem koX6_3 : Cond.methodLink RX6 3 Lib.objectInit ∈ gw_tbl := gw_ix 339 (by decide +kernel)
theorem koX7_5 : Cond.methodLink RX7 5 Lib.objectInit ∈ gw_tbl := gw_ix 430 (by decide +kernel)
theorem koX8_1 : Cond.methodLink RX8 1 Lib.objectInit ∈ gw_tbl := gw_ix 131 (by decide +kernel)
theorem koX9_3 : Cond.methodLink RX9 3 Lib.objectInit ∈ gw_tbl := gw_ix 147 (by decide +kernel)
theorem koX10_3 : Cond.methodLink RX10 3 Lib.objectInit ∈ gw_tbl := gw_ix 489 (by decide +kernel)
theorem jfX0_11 : Cond.fieldLink RX0 11 (TX0 1).1 (TX0 1).2.1 (TX0 1).2.2.1 ∈ gw_tbl := gw_ix 404 (by decide +kernel)
theorem jfX0_15 : Cond.fieldLink RX0 15 (TX0 2).1 (TX0 2).2.1 (TX0 2).2.2.1 ∈ gw_tbl := gw_ix 405 (by decide +kernel)
theorem jfX0_18 : Cond.fieldLink RX0 18 (TX0 3).1 (TX0 3).2.1 (TX0 3).2.2.1 ∈ gw_tbl := gw_ix 406 (by decide +kernel)
theorem jfX0_21 : Cond.fieldLink RX0 21 (TX0 4).1 (TX0 4).2.1 (TX0 4).2.2.1 ∈ gw_tbl := gw_ix 407 (by decide +kernel)
theorem jfX0_24 : Cond.fieldLink RX0 24 (TX0 5).1 (TX0 5).2.1 (TX0 5).2.2.1 ∈ gw_tbl := gw_ix 408 (by decide +kernel)
theorem jfX0_27 : Cond.fieldLink RX0 27 (TX0 0).1 (TX0 0).2.1 (TX0 0).2.2.1 ∈ gw_tbl := gw_ix 403 (by decide +kernel)
theorem jfX2_11 : Cond.fieldLink RX2 11 (TX2 0).1 (TX2 0).2.1 (TX2 0).2.2.1 ∈ gw_tbl := gw_ix 220 (by decide +kernel)
theorem jfX2_17 : Cond.fieldLink RX2 17 (TX2 1).1 (TX2 1).2.1 (TX2 1).2.2.1 ∈ gw_tbl := gw_ix 221 (by decide +kernel)
theorem jfX2_20 : Cond.fieldLink RX2 20 (TX2 2).1 (TX2 2).2.1 (TX2 2).2.2.1 ∈ gw_tbl := gw_ix 222 (by decide +kernel)
theorem jfX3_11 : Cond.fieldLink RX3 11 (TX3 3).1 (TX3 3).2.1 (TX3 3).2.2.1 ∈ gw_tbl := gw_ix 459 (by decide +kernel)
theorem jfX3_15 : Cond.fieldLink RX3 15 (TX3 4).1 (TX3 4).2.1 (TX3 4).2.2.1 ∈ gw_tbl := gw_ix 460 (by decide +kernel)
theorem jfX3_18 : Cond.fieldLink RX3 18 (TX3 5).1 (TX3 5).2.1 (TX3 5).2.2.1 ∈ gw_tbl := gw_ix 461 (by decide +kernel)
theorem jfX3_21 : Cond.fieldLink RX3 21 (TX3 6).1 (TX3 6).2.1 (TX3 6).2.2.1 ∈ gw_tbl := gw_ix 463 (by decide +kernel)
theorem jfX3_24 : Cond.fieldLink RX3 24 (TX3 0).1 (TX3 0).2.1 (TX3 0).2.2.1 ∈ gw_tbl := gw_ix 456 (by decide +kernel)
theorem jfX3_28 : Cond.fieldLink RX3 28 (TX3 1).1 (TX3 1).2.1 (TX3 1).2.2.1 ∈ gw_tbl := gw_ix 457 (by decide +kernel)
theorem jfX3_32 : Cond.fieldLink RX3 32 (TX3 2).1 (TX3 2).2.1 (TX3 2).2.2.1 ∈ gw_tbl := gw_ix 458 (by decide +kernel)
theorem jfX4_15 : Cond.fieldLink RX4 15 (TX4 9).1 (TX4 9).2.1 (TX4 9).2.2.1 ∈ gw_tbl := gw_ix 185 (by decide +kernel)
theorem jfX4_19 : Cond.fieldLink RX4 19 (TX4 0).1 (TX4 0).2.1 (TX4 0).2.2.1 ∈ gw_tbl := gw_ix 175 (by decide +kernel)
theorem jfX4_9 : Cond.fieldLink RX4 9 (TX4 1).1 (TX4 1).2.1 (TX4 1).2.2.1 ∈ gw_tbl := gw_ix 176 (by decide +kernel)
theorem jfX6_15 : Cond.fieldLink RX6 15 (TX6 5).1 (TX6 5).2.1 (TX6 5).2.2.1 ∈ gw_tbl := gw_ix 354 (by decide +kernel)
theorem jfX6_18 : Cond.fieldLink RX6 18 (TX6 6).1 (TX6 6).2.1 (TX6 6).2.2.1 ∈ gw_tbl := gw_ix 356 (by decide +kernel)
theorem jfX6_21 : Cond.fieldLink RX6 21 (TX6 7).1 (TX6 7).2.1 (TX6 7).2.2.1 ∈ gw_tbl := gw_ix 358 (by decide +kernel)
theorem jfX6_9 : Cond.fieldLink RX6 9 (TX6 4).1 (TX6 4).2.1 (TX6 4).2.2.1 ∈ gw_tbl := gw_ix 351 (by decide +kernel)
theorem jfX7_13 : Cond.fieldLink RX7 13 (TX7 3).1 (TX7 3).2.1 (TX7 3).2.2.1 ∈ gw_tbl := gw_ix 434 (by decide +kernel)
theorem jfX7_17 : Cond.fieldLink RX7 17 (TX7 4).1 (TX7 4).2.1 (TX7 4).2.2.1 ∈ gw_tbl := gw_ix 435 (by decide +kernel)
theorem jfX7_20 : Cond.fieldLink RX7 20 (TX7 5).1 (TX7 5).2.1 (TX7 5).2.2.1 ∈ gw_tbl := gw_ix 436 (by decide +kernel)
theorem jfX7_24 : Cond.fieldLink RX7 24 (TX7 0).1 (TX7 0).2.1 (TX7 0).2.2.1 ∈ gw_tbl := gw_ix 431 (by decide +kernel)
theorem jfX7_28 : Cond.fieldLink RX7 28 (TX7 1).1 (TX7 1).2.1 (TX7 1).2.2.1 ∈ gw_tbl := gw_ix 432 (by decide +kernel)
theorem jfX7_32 : Cond.fieldLink RX7 32 (TX7 2).1 (TX7 2).2.1 (TX7 2).2.2.1 ∈ gw_tbl := gw_ix 433 (by decide +kernel)
theorem jfX8_9 : Cond.fieldLink RX8 9 (TX8 0).1 (TX8 0).2.1 (TX8 0).2.2.1 ∈ gw_tbl := gw_ix 132 (by decide +kernel)
theorem jfX9_11 : Cond.fieldLink RX9 11 (TX9 0).1 (TX9 0).2.1 (TX9 0).2.2.1 ∈ gw_tbl := gw_ix 148 (by decide +kernel)
theorem jfX9_15 : Cond.fieldLink RX9 15 (TX9 1).1 (TX9 1).2.1 (TX9 1).2.2.1 ∈ gw_tbl := gw_ix 149 (by decide +kernel)
theorem jfX9_18 : Cond.fieldLink RX9 18 (TX9 2).1 (TX9 2).2.1 (TX9 2).2.2.1 ∈ gw_tbl := gw_ix 150 (by decide +kernel)
theorem jfX10_11 : Cond.fieldLink RX10 11 (TX10 2).1 (TX10 2).2.1 (TX10 2).2.2.1 ∈ gw_tbl := gw_ix 492 (by decide +kernel)
theorem jfX10_15 : Cond.fieldLink RX10 15 (TX10 0).1 (TX10 0).2.1 (TX10 0).2.2.1 ∈ gw_tbl := gw_ix 490 (by decide +kernel)
theorem jfX10_19 : Cond.fieldLink RX10 19 (TX10 1).1 (TX10 1).2.1 (TX10 1).2.2.1 ∈ gw_tbl := gw_ix 491 (by decide +kernel)
def tbX0_init : List (Nat × Instr × Nat) := [(0, .aload_n 0, 1), (1, .invokespecial 3, 3), (4, .aload_n 0, 1), (5, .bipush 9, 2), (7, .newarray .int, 2), (9, .putfield 11, 3), (12, .aload_n 0, 1), (13, .bipush 9, 2), (15, .newarray .int, 2), (17, .putfield 15, 3), (20, .aload_n 0, 1), (21, .bipush 9, 2), (23, .newarray .int, 2), (25, .putfield 18, 3), (28, .aload_n 0, 1), (29, .bipush 8, 2), (31, .newarray .int, 2), (33, .putfield 21, 3), (36, .aload_n 0, 1), (37, .bipush 8, 2), (39, .newarray .int, 2), (41, .putfield 24, 3), (44, .aload_n 0, 1), (45, .aload_n 1, 1), (46, .putfield 27, 3), (49, .return_, 1)]
set_option maxRecDepth 20000 in
theorem daX0_init : ∀ x ∈ tbX0_init, decode cX0_init x.1 = .ok x.2 := by decide +kernel
theorem dkX0_init {i pc n : Nat} {ins : Instr} (h : tbX0_init[i]? = some (pc, ins, n)) : decode cX0_init pc = .ok (ins, n) := daX0_init (pc, ins, n) (List.mem_of_getElem? h)
def bkX0_init (cy : Nat → Nat) (B : Nat) (a1 : Nat) : List va_E := [.inr (0, [.ref a1, .ref (B + 1), .ref (B + 2), .ref (B + 3), .ref (B + 4), .ref (B + 5), .int 0]), .inl (cy 0, 9, .inl (fun _ => 0)), .inl (cy 0, 9, .inl (fun _ => 0)), .inl (cy 0, 9, .inl (fun _ => 0)), .inl (cy 0, 8, .inl (fun _ => 0)), .inl (cy 0, 8, .inl (fun _ => 0))]
set_option maxRecDepth 20000 in
set_option maxHeartbeats 4000000 in
theorem kcX0_init (l : Launch) (D : va_G) (cy ax : Nat → Nat) (B : Nat) (a1 : Nat) : Kc l D cy ax yX0_init cX0_init 2 1 5 43 [.ref B, .ref a1] B [.inr (0, [.null, .null, .null, .null, .null, .null, .int 0])] (bkX0_init cy B a1) := by
  refine kc_of (own := RX0) (lv := [(0, .ref B), (1, .ref a1)]) rfl rfl rfl (Nat.le_of_ble_eq_true rfl) rfl rfl (fun X hX => ?_)
  refine qc_aload_n (n := 1) 0 (dkX0_init (i := 0) rfl) rfl rfl ?_
  refine qc_obj (n := 4) (dkX0_init (i := 1) rfl) rfl koX0_3 kob1 kob2 rfl (Nat.le_of_ble_eq_true rfl) ?_
  refine qc_aload_n (n := 5) 0 (dkX0_init (i := 2) rfl) rfl rfl ?_
  refine qc_bipush (n := 7) 9 (dkX0_init (i := 3) rfl) rfl (by decide) ?_
  refine qc_arr 0 (n := 9) (r := 1) (9, .inl (fun _ => 0)) (dkX0_init (i := 4) rfl) rfl rfl kac0 rfl (fun _ h => h) (fun _ => rfl) (by decide) (by decide) (by decide) rfl rfl rfl ?_
  refine qc_putF (n := 12) (v := .ref (B + 1)) (es2 := [.inr (0, [.null, .ref (B + 1), .null, .null, .null, .null, .int 0]), .inl (cy 0, 9, .inl (fun _ => 0))]) 0 1 (dkX0_init (i := 5) rfl) rfl rfl rfl gnX0 (Nat.le_of_ble_eq_true rfl) jfX0_11 (Nat.le_of_ble_eq_true rfl) tyX0_ok nmX0 rfl rfl rfl rfl rfl ?_
  refine qc_aload_n (n := 13) 0 (dkX0_init (i := 6) rfl) rfl rfl ?_
  refine qc_bipush (n := 15) 9 (dkX0_init (i := 7) rfl) rfl (by decide) ?_
  refine qc_arr 0 (n := 17) (r := 2) (9, .inl (fun _ => 0)) (dkX0_init (i := 8) rfl) rfl rfl kac0 rfl (fun _ h => h) (fun _ => rfl) (by decide) (by decide) (by decide) rfl rfl rfl ?_
  refine qc_putF (n := 20) (v := .ref (B + 2)) (es2 := [.inr (0, [.null, .ref (B + 1), .ref (B + 2), .null, .null, .null, .int 0]), .inl (cy 0, 9, .inl (fun _ => 0)), .inl (cy 0, 9, .inl (fun _ => 0))]) 0 2 (dkX0_init (i := 9) rfl) rfl rfl rfl gnX0 (Nat.le_of_ble_eq_true rfl) jfX0_15 (Nat.le_of_ble_eq_true rfl) tyX0_ok nmX0 rfl rfl rfl rfl rfl ?_
  refine qc_aload_n (n := 21) 0 (dkX0_init (i := 10) rfl) rfl rfl ?_
  refine qc_bipush (n := 23) 9 (dkX0_init (i := 11) rfl) rfl (by decide) ?_
  refine qc_arr 0 (n := 25) (r := 3) (9, .inl (fun _ => 0)) (dkX0_init (i := 12) rfl) rfl rfl kac0 rfl (fun _ h => h) (fun _ => rfl) (by decide) (by decide) (by decide) rfl rfl rfl ?_
  refine qc_putF (n := 28) (v := .ref (B + 3)) (es2 := [.inr (0, [.null, .ref (B + 1), .ref (B + 2), .ref (B + 3), .null, .null, .int 0]), .inl (cy 0, 9, .inl (fun _ => 0)), .inl (cy 0, 9, .inl (fun _ => 0)), .inl (cy 0, 9, .inl (fun _ => 0))]) 0 3 (dkX0_init (i := 13) rfl) rfl rfl rfl gnX0 (Nat.le_of_ble_eq_true rfl) jfX0_18 (Nat.le_of_ble_eq_true rfl) tyX0_ok nmX0 rfl rfl rfl rfl rfl ?_
  refine qc_aload_n (n := 29) 0 (dkX0_init (i := 14) rfl) rfl rfl ?_
  refine qc_bipush (n := 31) 8 (dkX0_init (i := 15) rfl) rfl (by decide) ?_
  refine qc_arr 0 (n := 33) (r := 4) (8, .inl (fun _ => 0)) (dkX0_init (i := 16) rfl) rfl rfl kac0 rfl (fun _ h => h) (fun _ => rfl) (by decide) (by decide) (by decide) rfl rfl rfl ?_
  refine qc_putF (n := 36) (v := .ref (B + 4)) (es2 := [.inr (0, [.null, .ref (B + 1), .ref (B + 2), .ref (B + 3), .ref (B + 4), .null, .int 0]), .inl (cy 0, 9, .inl (fun _ => 0)), .inl (cy 0, 9, .inl (fun _ => 0)), .inl (cy 0, 9, .inl (fun _ => 0)), .inl (cy 0, 8, .inl (fun _ => 0))]) 0 4 (dkX0_init (i := 17) rfl) rfl rfl rfl gnX0 (Nat.le_of_ble_eq_true rfl) jfX0_21 (Nat.le_of_ble_eq_true rfl) tyX0_ok nmX0 rfl rfl rfl rfl rfl ?_
  refine qc_aload_n (n := 37) 0 (dkX0_init (i := 18) rfl) rfl rfl ?_
  refine qc_bipush (n := 39) 8 (dkX0_init (i := 19) rfl) rfl (by decide) ?_
  refine qc_arr 0 (n := 41) (r := 5) (8, .inl (fun _ => 0)) (dkX0_init (i := 20) rfl) rfl rfl kac0 rfl (fun _ h => h) (fun _ => rfl) (by decide) (by decide) (by decide) rfl rfl rfl ?_
  refine qc_putF (n := 44) (v := .ref (B + 5)) (es2 := [.inr (0, [.null, .ref (B + 1), .ref (B + 2), .ref (B + 3), .ref (B + 4), .ref (B + 5), .int 0]), .inl (cy 0, 9, .inl (fun _ => 0)), .inl (cy 0, 9, .inl (fun _ => 0)), .inl (cy 0, 9, .inl (fun _ => 0)), .inl (cy 0, 8, .inl (fun _ => 0)), .inl (cy 0, 8, .inl (fun _ => 0))]) 0 5 (dkX0_init (i := 21) rfl) rfl rfl rfl gnX0 (Nat.le_of_ble_eq_true rfl) jfX0_24 (Nat.le_of_ble_eq_true rfl) tyX0_ok nmX0 rfl rfl rfl rfl rfl ?_
  refine qc_aload_n (n := 45) 0 (dkX0_init (i := 22) rfl) rfl rfl ?_
  refine qc_aload_n (n := 46) 1 (dkX0_init (i := 23) rfl) rfl rfl ?_
  refine qc_putF (n := 49) (v := .ref a1) (es2 := [.inr (0, [.ref a1, .ref (B + 1), .ref (B + 2), .ref (B + 3), .ref (B + 4), .ref (B + 5), .int 0]), .inl (cy 0, 9, .inl (fun _ => 0)), .inl (cy 0, 9, .inl (fun _ => 0)), .inl (cy 0, 9, .inl (fun _ => 0)), .inl (cy 0, 8, .inl (fun _ => 0)), .inl (cy 0, 8, .inl (fun _ => 0))]) 0 0 (dkX0_init (i := 24) rfl) rfl rfl rfl gnX0 (Nat.le_of_ble_eq_true rfl) jfX0_27 (Nat.le_of_ble_eq_true rfl) tyX0_ok nmX0 rfl rfl rfl rfl rfl ?_
  exact qc_ret (dkX0_init (i := 25) rfl) rfl rfl
def tbX2_init : List (Nat × Instr × Nat) := [(0, .aload_n 0, 1), (1, .invokespecial 3, 3), (4, .aload_n 0, 1), (5, .sipush 400, 3), (8, .newarray .int, 2), (10, .putfield 11, 3), (13, .aload_n 0, 1), (14, .bipush 32, 2), (16, .newarray .int, 2), (18, .putfield 17, 3), (21, .aload_n 0, 1), (22, .bipush 32, 2), (24, .newarray .int, 2), (26, .putfield 20, 3), (29, .return_, 1)]
set_option maxRecDepth 20000 in
theorem daX2_init : ∀ x ∈ tbX2_init, decode cX2_init x.1 = .ok x.2 := by decide +kernel
theorem dkX2_init {i pc n : Nat} {ins : Instr} (h : tbX2_init[i]? = some (pc, ins, n)) : decode cX2_init pc = .ok (ins, n) := daX2_init (pc, ins, n) (List.mem_of_getElem? h)
def bkX2_init (cy : Nat → Nat) (B : Nat) : List va_E := [.inr (2, [.ref (B + 1), .ref (B + 2), .ref (B + 3), .int 0, .int 0]), .inl (cy 0, 400, .inl (fun _ => 0)), .inl (cy 0, 32, .inl (fun _ => 0)), .inl (cy 0, 32, .inl (fun _ => 0))]
set_option maxRecDepth 20000 in
set_option maxHeartbeats 4000000 in
theorem kcX2_init (l : Launch) (D : va_G) (cy ax : Nat → Nat) (B : Nat) : Kc l D cy ax yX2_init cX2_init 1 1 3 464 [.ref B] B [.inr (2, [.null, .null, .null, .int 0, .int 0])] (bkX2_init cy B) := by
  refine kc_of (own := RX2) (lv := [(0, .ref B)]) rfl rfl rfl (Nat.le_of_ble_eq_true rfl) rfl rfl (fun X hX => ?_)
  refine qc_aload_n (n := 1) 0 (dkX2_init (i := 0) rfl) rfl rfl ?_
  refine qc_obj (n := 4) (dkX2_init (i := 1) rfl) rfl koX2_3 kob1 kob2 rfl (Nat.le_of_ble_eq_true rfl) ?_
  refine qc_aload_n (n := 5) 0 (dkX2_init (i := 2) rfl) rfl rfl ?_
  refine qc_sipush (n := 8) 400 (dkX2_init (i := 3) rfl) rfl (by decide) ?_
  refine qc_arr 0 (n := 10) (r := 1) (400, .inl (fun _ => 0)) (dkX2_init (i := 4) rfl) rfl rfl kac0 rfl (fun _ h => h) (fun _ => rfl) (by decide) (by decide) (by decide) rfl rfl rfl ?_
  refine qc_putF (n := 13) (v := .ref (B + 1)) (es2 := [.inr (2, [.ref (B + 1), .null, .null, .int 0, .int 0]), .inl (cy 0, 400, .inl (fun _ => 0))]) 0 0 (dkX2_init (i := 5) rfl) rfl rfl rfl gnX2 (Nat.le_of_ble_eq_true rfl) jfX2_11 (Nat.le_of_ble_eq_true rfl) tyX2_ok nmX2 rfl rfl rfl rfl rfl ?_
  refine qc_aload_n (n := 14) 0 (dkX2_init (i := 6) rfl) rfl rfl ?_
  refine qc_bipush (n := 16) 32 (dkX2_init (i := 7) rfl) rfl (by decide) ?_
  refine qc_arr 0 (n := 18) (r := 2) (32, .inl (fun _ => 0)) (dkX2_init (i := 8) rfl) rfl rfl kac0 rfl (fun _ h => h) (fun _ => rfl) (by decide) (by decide) (by decide) rfl rfl rfl ?_
  refine qc_putF (n := 21) (v := .ref (B + 2)) (es2 := [.inr (2, [.ref (B + 1), .ref (B + 2), .null, .int 0, .int 0]), .inl (cy 0, 400, .inl (fun _ => 0)), .inl (cy 0, 32, .inl (fun _ => 0))]) 0 1 (dkX2_init (i := 9) rfl) rfl rfl rfl gnX2 (Nat.le_of_ble_eq_true rfl) jfX2_17 (Nat.le_of_ble_eq_true rfl) tyX2_ok nmX2 rfl rfl rfl rfl rfl ?_
  refine qc_aload_n (n := 22) 0 (dkX2_init (i := 10) rfl) rfl rfl ?_
  refine qc_bipush (n := 24) 32 (dkX2_init (i := 11) rfl) rfl (by decide) ?_
  refine qc_arr 0 (n := 26) (r := 3) (32, .inl (fun _ => 0)) (dkX2_init (i := 12) rfl) rfl rfl kac0 rfl (fun _ h => h) (fun _ => rfl) (by decide) (by decide) (by decide) rfl rfl rfl ?_
  refine qc_putF (n := 29) (v := .ref (B + 3)) (es2 := [.inr (2, [.ref (B + 1), .ref (B + 2), .ref (B + 3), .int 0, .int 0]), .inl (cy 0, 400, .inl (fun _ => 0)), .inl (cy 0, 32, .inl (fun _ => 0)), .inl (cy 0, 32, .inl (fun _ => 0))]) 0 2 (dkX2_init (i := 13) rfl) rfl rfl rfl gnX2 (Nat.le_of_ble_eq_true rfl) jfX2_20 (Nat.le_of_ble_eq_true rfl) tyX2_ok nmX2 rfl rfl rfl rfl rfl ?_
  exact qc_ret (dkX2_init (i := 14) rfl) rfl rfl
def tbX3_init : List (Nat × Instr × Nat) := [(0, .aload_n 0, 1), (1, .invokespecial 3, 3), (4, .aload_n 0, 1), (5, .iconst 5, 1), (6, .newarray .int, 2), (8, .putfield 11, 3), (11, .aload_n 0, 1), (12, .iconst 5, 1), (13, .newarray .int, 2), (15, .putfield 15, 3), (18, .aload_n 0, 1), (19, .bipush 32, 2), (21, .newarray .int, 2), (23, .putfield 18, 3), (26, .aload_n 0, 1), (27, .iconst 5, 1), (28, .newarray .int, 2), (30, .putfield 21, 3), (33, .aload_n 0, 1), (34, .aload_n 1, 1), (35, .putfield 24, 3), (38, .aload_n 0, 1), (39, .aload_n 2, 1), (40, .putfield 28, 3), (43, .aload_n 0, 1), (44, .aload_n 3, 1), (45, .putfield 32, 3), (48, .return_, 1)]
set_option maxRecDepth 20000 in
theorem daX3_init : ∀ x ∈ tbX3_init, decode cX3_init x.1 = .ok x.2 := by decide +kernel
theorem dkX3_init {i pc n : Nat} {ins : Instr} (h : tbX3_init[i]? = some (pc, ins, n)) : decode cX3_init pc = .ok (ins, n) := daX3_init (pc, ins, n) (List.mem_of_getElem? h)
def bkX3_init (cy : Nat → Nat) (B : Nat) (a1 a2 a3 : Nat) : List va_E := [.inr (3, [.ref a1, .ref a2, .ref a3, .ref (B + 1), .ref (B + 2), .ref (B + 3), .ref (B + 4), .int 0]), .inl (cy 0, 5, .inl (fun _ => 0)), .inl (cy 0, 5, .inl (fun _ => 0)), .inl (cy 0, 32, .inl (fun _ => 0)), .inl (cy 0, 5, .inl (fun _ => 0))]
set_option maxRecDepth 20000 in
set_option maxHeartbeats 4000000 in
theorem kcX3_init (l : Launch) (D : va_G) (cy ax : Nat → Nat) (B : Nat) (a1 a2 a3 : Nat) : Kc l D cy ax yX3_init cX3_init 4 1 4 47 [.ref B, .ref a1, .ref a2, .ref a3] B [.inr (3, [.null, .null, .null, .null, .null, .null, .null, .int 0])] (bkX3_init cy B a1 a2 a3) := by
  refine kc_of (own := RX3) (lv := [(0, .ref B), (1, .ref a1), (2, .ref a2), (3, .ref a3)]) rfl rfl rfl (Nat.le_of_ble_eq_true rfl) rfl rfl (fun X hX => ?_)
  refine qc_aload_n (n := 1) 0 (dkX3_init (i := 0) rfl) rfl rfl ?_
  refine qc_obj (n := 4) (dkX3_init (i := 1) rfl) rfl koX3_3 kob1 kob2 rfl (Nat.le_of_ble_eq_true rfl) ?_
  refine qc_aload_n (n := 5) 0 (dkX3_init (i := 2) rfl) rfl rfl ?_
  refine qc_iconst (n := 6) 5 (dkX3_init (i := 3) rfl) rfl (by decide) ?_
  refine qc_arr 0 (n := 8) (r := 1) (5, .inl (fun _ => 0)) (dkX3_init (i := 4) rfl) rfl rfl kac0 rfl (fun _ h => h) (fun _ => rfl) (by decide) (by decide) (by decide) rfl rfl rfl ?_
  refine qc_putF (n := 11) (v := .ref (B + 1)) (es2 := [.inr (3, [.null, .null, .null, .ref (B + 1), .null, .null, .null, .int 0]), .inl (cy 0, 5, .inl (fun _ => 0))]) 0 3 (dkX3_init (i := 5) rfl) rfl rfl rfl gnX3 (Nat.le_of_ble_eq_true rfl) jfX3_11 (Nat.le_of_ble_eq_true rfl) tyX3_ok nmX3 rfl rfl rfl rfl rfl ?_
  refine qc_aload_n (n := 12) 0 (dkX3_init (i := 6) rfl) rfl rfl ?_
  refine qc_iconst (n := 13) 5 (dkX3_init (i := 7) rfl) rfl (by decide) ?_
  refine qc_arr 0 (n := 15) (r := 2) (5, .inl (fun _ => 0)) (dkX3_init (i := 8) rfl) rfl rfl kac0 rfl (fun _ h => h) (fun _ => rfl) (by decide) (by decide) (by decide) rfl rfl rfl ?_
  refine qc_putF (n := 18) (v := .ref (B + 2)) (es2 := [.inr (3, [.null, .null, .null, .ref (B + 1), .ref (B + 2), .null, .null, .int 0]), .inl (cy 0, 5, .inl (fun _ => 0)), .inl (cy 0, 5, .inl (fun _ => 0))]) 0 4 (dkX3_init (i := 9) rfl) rfl rfl rfl gnX3 (Nat.le_of_ble_eq_true rfl) jfX3_15 (Nat.le_of_ble_eq_true rfl) tyX3_ok nmX3 rfl rfl rfl rfl rfl ?_
  refine qc_aload_n (n := 19) 0 (dkX3_init (i := 10) rfl) rfl rfl ?_
  refine qc_bipush (n := 21) 32 (dkX3_init (i := 11) rfl) rfl (by decide) ?_
  refine qc_arr 0 (n := 23) (r := 3) (32, .inl (fun _ => 0)) (dkX3_init (i := 12) rfl) rfl rfl kac0 rfl (fun _ h => h) (fun _ => rfl) (by decide) (by decide) (by decide) rfl rfl rfl ?_
  refine qc_putF (n := 26) (v := .ref (B + 3)) (es2 := [.inr (3, [.null, .null, .null, .ref (B + 1), .ref (B + 2), .ref (B + 3), .null, .int 0]), .inl (cy 0, 5, .inl (fun _ => 0)), .inl (cy 0, 5, .inl (fun _ => 0)), .inl (cy 0, 32, .inl (fun _ => 0))]) 0 5 (dkX3_init (i := 13) rfl) rfl rfl rfl gnX3 (Nat.le_of_ble_eq_true rfl) jfX3_18 (Nat.le_of_ble_eq_true rfl) tyX3_ok nmX3 rfl rfl rfl rfl rfl ?_
  refine qc_aload_n (n := 27) 0 (dkX3_init (i := 14) rfl) rfl rfl ?_
  refine qc_iconst (n := 28) 5 (dkX3_init (i := 15) rfl) rfl (by decide) ?_
  refine qc_arr 0 (n := 30) (r := 4) (5, .inl (fun _ => 0)) (dkX3_init (i := 16) rfl) rfl rfl kac0 rfl (fun _ h => h) (fun _ => rfl) (by decide) (by decide) (by decide) rfl rfl rfl ?_
  refine qc_putF (n := 33) (v := .ref (B + 4)) (es2 := [.inr (3, [.null, .null, .null, .ref (B + 1), .ref (B + 2), .ref (B + 3), .ref (B + 4), .int 0]), .inl (cy 0, 5, .inl (fun _ => 0)), .inl (cy 0, 5, .inl (fun _ => 0)), .inl (cy 0, 32, .inl (fun _ => 0)), .inl (cy 0, 5, .inl (fun _ => 0))]) 0 6 (dkX3_init (i := 17) rfl) rfl rfl rfl gnX3 (Nat.le_of_ble_eq_true rfl) jfX3_21 (Nat.le_of_ble_eq_true rfl) tyX3_ok nmX3 rfl rfl rfl rfl rfl ?_
  refine qc_aload_n (n := 34) 0 (dkX3_init (i := 18) rfl) rfl rfl ?_
  refine qc_aload_n (n := 35) 1 (dkX3_init (i := 19) rfl) rfl rfl ?_
  refine qc_putF (n := 38) (v := .ref a1) (es2 := [.inr (3, [.ref a1, .null, .null, .ref (B + 1), .ref (B + 2), .ref (B + 3), .ref (B + 4), .int 0]), .inl (cy 0, 5, .inl (fun _ => 0)), .inl (cy 0, 5, .inl (fun _ => 0)), .inl (cy 0, 32, .inl (fun _ => 0)), .inl (cy 0, 5, .inl (fun _ => 0))]) 0 0 (dkX3_init (i := 20) rfl) rfl rfl rfl gnX3 (Nat.le_of_ble_eq_true rfl) jfX3_24 (Nat.le_of_ble_eq_true rfl) tyX3_ok nmX3 rfl rfl rfl rfl rfl ?_
  refine qc_aload_n (n := 39) 0 (dkX3_init (i := 21) rfl) rfl rfl ?_
  refine qc_aload_n (n := 40) 2 (dkX3_init (i := 22) rfl) rfl rfl ?_
  refine qc_putF (n := 43) (v := .ref a2) (es2 := [.inr (3, [.ref a1, .ref a2, .null, .ref (B + 1), .ref (B + 2), .ref (B + 3), .ref (B + 4), .int 0]), .inl (cy 0, 5, .inl (fun _ => 0)), .inl (cy 0, 5, .inl (fun _ => 0)), .inl (cy 0, 32, .inl (fun _ => 0)), .inl (cy 0, 5, .inl (fun _ => 0))]) 0 1 (dkX3_init (i := 23) rfl) rfl rfl rfl gnX3 (Nat.le_of_ble_eq_true rfl) jfX3_28 (Nat.le_of_ble_eq_true rfl) tyX3_ok nmX3 rfl rfl rfl rfl rfl ?_
  refine qc_aload_n (n := 44) 0 (dkX3_init (i := 24) rfl) rfl rfl ?_
  refine qc_aload_n (n := 45) 3 (dkX3_init (i := 25) rfl) rfl rfl ?_
  refine qc_putF (n := 48) (v := .ref a3) (es2 := [.inr (3, [.ref a1, .ref a2, .ref a3, .ref (B + 1), .ref (B + 2), .ref (B + 3), .ref (B + 4), .int 0]), .inl (cy 0, 5, .inl (fun _ => 0)), .inl (cy 0, 5, .inl (fun _ => 0)), .inl (cy 0, 32, .inl (fun _ => 0)), .inl (cy 0, 5, .inl (fun _ => 0))]) 0 2 (dkX3_init (i := 26) rfl) rfl rfl rfl gnX3 (Nat.le_of_ble_eq_true rfl) jfX3_32 (Nat.le_of_ble_eq_true rfl) tyX3_ok nmX3 rfl rfl rfl rfl rfl ?_
  exact qc_ret (dkX3_init (i := 27) rfl) rfl rfl
def tbX4_init : List (Nat × Instr × Nat) := [(0, .aload_n 0, 1), (1, .invokespecial 3, 3), (4, .aload_n 0, 1), (5, .bipush 18, 2), (7, .newarray .long, 2), (9, .putfield 9, 3), (12, .aload_n 0, 1), (13, .iconst (-1), 1), (14, .putfield 15, 3), (17, .aload_n 0, 1), (18, .aload_n 1, 1), (19, .putfield 19, 3), (22, .return_, 1)]
set_option maxRecDepth 20000 in
theorem daX4_init : ∀ x ∈ tbX4_init, decode cX4_init x.1 = .ok x.2 := by decide +kernel
theorem dkX4_init {i pc n : Nat} {ins : Instr} (h : tbX4_init[i]? = some (pc, ins, n)) : decode cX4_init pc = .ok (ins, n) := daX4_init (pc, ins, n) (List.mem_of_getElem? h)
def bkX4_init (cy : Nat → Nat) (B : Nat) (a1 : Nat) : List va_E := [.inr (4, [.ref a1, .ref (B + 1), .int 0, .int 0, .int 0, .int 0, .int 0, .int 0, .int 0, .int (-1)]), .inl (cy 3, 18, .inr (.inl (fun _ => 0)))]
set_option maxRecDepth 20000 in
set_option maxHeartbeats 4000000 in
theorem kcX4_init (l : Launch) (D : va_G) (cy ax : Nat → Nat) (B : Nat) (a1 : Nat) : Kc l D cy ax yX4_init cX4_init 2 1 1 18 [.ref B, .ref a1] B [.inr (4, [.null, .null, .int 0, .int 0, .int 0, .int 0, .int 0, .int 0, .int 0, .int 0])] (bkX4_init cy B a1) := by
  refine kc_of (own := RX4) (lv := [(0, .ref B), (1, .ref a1)]) rfl rfl rfl (Nat.le_of_ble_eq_true rfl) rfl rfl (fun X hX => ?_)
  refine qc_aload_n (n := 1) 0 (dkX4_init (i := 0) rfl) rfl rfl ?_
  refine qc_obj (n := 4) (dkX4_init (i := 1) rfl) rfl koX4_3 kob1 kob2 rfl (Nat.le_of_ble_eq_true rfl) ?_
  refine qc_aload_n (n := 5) 0 (dkX4_init (i := 2) rfl) rfl rfl ?_
  refine qc_bipush (n := 7) 18 (dkX4_init (i := 3) rfl) rfl (by decide) ?_
  refine qc_arr 3 (n := 9) (r := 1) (18, .inr (.inl (fun _ => 0))) (dkX4_init (i := 4) rfl) rfl rfl kac3 rfl (fun _ h => h) (fun _ => rfl) (by decide) (by decide) (by decide) rfl rfl rfl ?_
  refine qc_putF (n := 12) (v := .ref (B + 1)) (es2 := [.inr (4, [.null, .ref (B + 1), .int 0, .int 0, .int 0, .int 0, .int 0, .int 0, .int 0, .int 0]), .inl (cy 3, 18, .inr (.inl (fun _ => 0)))]) 0 1 (dkX4_init (i := 5) rfl) rfl rfl rfl gnX4 (Nat.le_of_ble_eq_true rfl) jfX4_9 (Nat.le_of_ble_eq_true rfl) tyX4_ok nmX4 rfl rfl rfl rfl rfl ?_
  refine qc_aload_n (n := 13) 0 (dkX4_init (i := 6) rfl) rfl rfl ?_
  refine qc_iconst (n := 14) (-1) (dkX4_init (i := 7) rfl) rfl (by decide) ?_
  refine qc_put (n := 17) (v := .int (-1)) (es2 := [.inr (4, [.null, .ref (B + 1), .int 0, .int 0, .int 0, .int 0, .int 0, .int 0, .int 0, .int (-1)]), .inl (cy 3, 18, .inr (.inl (fun _ => 0)))]) 0 9 (dkX4_init (i := 8) rfl) rfl rfl rfl gnX4 (Nat.le_of_ble_eq_true rfl) jfX4_15 (Nat.le_of_ble_eq_true rfl) tyX4_ok nmX4 rfl rfl rfl rfl ?_
  refine qc_aload_n (n := 18) 0 (dkX4_init (i := 9) rfl) rfl rfl ?_
  refine qc_aload_n (n := 19) 1 (dkX4_init (i := 10) rfl) rfl rfl ?_
  refine qc_putF (n := 22) (v := .ref a1) (es2 := [.inr (4, [.ref a1, .ref (B + 1), .int 0, .int 0, .int 0, .int 0, .int 0, .int 0, .int 0, .int (-1)]), .inl (cy 3, 18, .inr (.inl (fun _ => 0)))]) 0 0 (dkX4_init (i := 11) rfl) rfl rfl rfl gnX4 (Nat.le_of_ble_eq_true rfl) jfX4_19 (Nat.le_of_ble_eq_true rfl) tyX4_ok nmX4 rfl rfl rfl rfl rfl ?_
  exact qc_ret (dkX4_init (i := 12) rfl) rfl rfl
def tbX6_init : List (Nat × Instr × Nat) := [(0, .aload_n 0, 1), (1, .invokespecial 3, 3), (4, .aload_n 0, 1), (5, .bipush 8, 2), (7, .newarray .int, 2), (9, .putfield 9, 3), (12, .aload_n 0, 1), (13, .bipush 6, 2), (15, .newarray .int, 2), (17, .putfield 15, 3), (20, .aload_n 0, 1), (21, .bipush 6, 2), (23, .newarray .int, 2), (25, .putfield 18, 3), (28, .aload_n 0, 1), (29, .bipush 6, 2), (31, .newarray .int, 2), (33, .putfield 21, 3), (36, .return_, 1)]
set_option maxRecDepth 20000 in
theorem daX6_init : ∀ x ∈ tbX6_init, decode cX6_init x.1 = .ok x.2 := by decide +kernel
theorem dkX6_init {i pc n : Nat} {ins : Instr} (h : tbX6_init[i]? = some (pc, ins, n)) : decode cX6_init pc = .ok (ins, n) := daX6_init (pc, ins, n) (List.mem_of_getElem? h)
def bkX6_init (cy : Nat → Nat) (B : Nat) : List va_E := [.inr (6, [.int 0, .int 0, .int 0, .int 0, .ref (B + 1), .ref (B + 2), .ref (B + 3), .ref (B + 4)]), .inl (cy 0, 8, .inl (fun _ => 0)), .inl (cy 0, 6, .inl (fun _ => 0)), .inl (cy 0, 6, .inl (fun _ => 0)), .inl (cy 0, 6, .inl (fun _ => 0))]
set_option maxRecDepth 20000 in
set_option maxHeartbeats 4000000 in
theorem kcX6_init (l : Launch) (D : va_G) (cy ax : Nat → Nat) (B : Nat) : Kc l D cy ax yX6_init cX6_init 1 1 4 26 [.ref B] B [.inr (6, [.int 0, .int 0, .int 0, .int 0, .null, .null, .null, .null])] (bkX6_init cy B) := by
  refine kc_of (own := RX6) (lv := [(0, .ref B)]) rfl rfl rfl (Nat.le_of_ble_eq_true rfl) rfl rfl (fun X hX => ?_)
  refine qc_aload_n (n := 1) 0 (dkX6_init (i := 0) rfl) rfl rfl ?_
  refine qc_obj (n := 4) (dkX6_init (i := 1) rfl) rfl koX6_3 kob1 kob2 rfl (Nat.le_of_ble_eq_true rfl) ?_
  refine qc_aload_n (n := 5) 0 (dkX6_init (i := 2) rfl) rfl rfl ?_
  refine qc_bipush (n := 7) 8 (dkX6_init (i := 3) rfl) rfl (by decide) ?_
  refine qc_arr 0 (n := 9) (r := 1) (8, .inl (fun _ => 0)) (dkX6_init (i := 4) rfl) rfl rfl kac0 rfl (fun _ h => h) (fun _ => rfl) (by decide) (by decide) (by decide) rfl rfl rfl ?_
  refine qc_putF (n := 12) (v := .ref (B + 1)) (es2 := [.inr (6, [.int 0, .int 0, .int 0, .int 0, .ref (B + 1), .null, .null, .null]), .inl (cy 0, 8, .inl (fun _ => 0))]) 0 4 (dkX6_init (i := 5) rfl) rfl rfl rfl gnX6 (Nat.le_of_ble_eq_true rfl) jfX6_9 (Nat.le_of_ble_eq_true rfl) tyX6_ok nmX6 rfl rfl rfl rfl rfl ?_
  refine qc_aload_n (n := 13) 0 (dkX6_init (i := 6) rfl) rfl rfl ?_
  refine qc_bipush (n := 15) 6 (dkX6_init (i := 7) rfl) rfl (by decide) ?_
  refine qc_arr 0 (n := 17) (r := 2) (6, .inl (fun _ => 0)) (dkX6_init (i := 8) rfl) rfl rfl kac0 rfl (fun _ h => h) (fun _ => rfl) (by decide) (by decide) (by decide) rfl rfl rfl ?_
  refine qc_putF (n := 20) (v := .ref (B + 2)) (es2 := [.inr (6, [.int 0, .int 0, .int 0, .int 0, .ref (B + 1), .ref (B + 2), .null, .null]), .inl (cy 0, 8, .inl (fun _ => 0)), .inl (cy 0, 6, .inl (fun _ => 0))]) 0 5 (dkX6_init (i := 9) rfl) rfl rfl rfl gnX6 (Nat.le_of_ble_eq_true rfl) jfX6_15 (Nat.le_of_ble_eq_true rfl) tyX6_ok nmX6 rfl rfl rfl rfl rfl ?_
  refine qc_aload_n (n := 21) 0 (dkX6_init (i := 10) rfl) rfl rfl ?_
  refine qc_bipush (n := 23) 6 (dkX6_init (i := 11) rfl) rfl (by decide) ?_
  refine qc_arr 0 (n := 25) (r := 3) (6, .inl (fun _ => 0)) (dkX6_init (i := 12) rfl) rfl rfl kac0 rfl (fun _ h => h) (fun _ => rfl) (by decide) (by decide) (by decide) rfl rfl rfl ?_
  refine qc_putF (n := 28) (v := .ref (B + 3)) (es2 := [.inr (6, [.int 0, .int 0, .int 0, .int 0, .ref (B + 1), .ref (B + 2), .ref (B + 3), .null]), .inl (cy 0, 8, .inl (fun _ => 0)), .inl (cy 0, 6, .inl (fun _ => 0)), .inl (cy 0, 6, .inl (fun _ => 0))]) 0 6 (dkX6_init (i := 13) rfl) rfl rfl rfl gnX6 (Nat.le_of_ble_eq_true rfl) jfX6_18 (Nat.le_of_ble_eq_true rfl) tyX6_ok nmX6 rfl rfl rfl rfl rfl ?_
  refine qc_aload_n (n := 29) 0 (dkX6_init (i := 14) rfl) rfl rfl ?_
  refine qc_bipush (n := 31) 6 (dkX6_init (i := 15) rfl) rfl (by decide) ?_
  refine qc_arr 0 (n := 33) (r := 4) (6, .inl (fun _ => 0)) (dkX6_init (i := 16) rfl) rfl rfl kac0 rfl (fun _ h => h) (fun _ => rfl) (by decide) (by decide) (by decide) rfl rfl rfl ?_
  refine qc_putF (n := 36) (v := .ref (B + 4)) (es2 := [.inr (6, [.int 0, .int 0, .int 0, .int 0, .ref (B + 1), .ref (B + 2), .ref (B + 3), .ref (B + 4)]), .inl (cy 0, 8, .inl (fun _ => 0)), .inl (cy 0, 6, .inl (fun _ => 0)), .inl (cy 0, 6, .inl (fun _ => 0)), .inl (cy 0, 6, .inl (fun _ => 0))]) 0 7 (dkX6_init (i := 17) rfl) rfl rfl rfl gnX6 (Nat.le_of_ble_eq_true rfl) jfX6_21 (Nat.le_of_ble_eq_true rfl) tyX6_ok nmX6 rfl rfl rfl rfl rfl ?_
  exact qc_ret (dkX6_init (i := 18) rfl) rfl rfl
def tbX7_init : List (Nat × Instr × Nat) := [(0, .aload_n 0, 1), (1, .invokespecial 5, 3), (4, .aload_n 0, 1), (5, .sipush 1545, 3), (8, .newarray .int, 2), (10, .putfield 13, 3), (13, .aload_n 0, 1), (14, .sipush 1545, 3), (17, .newarray .int, 2), (19, .putfield 17, 3), (22, .aload_n 0, 1), (23, .iconst (-1), 1), (24, .putfield 20, 3), (27, .aload_n 0, 1), (28, .aload_n 1, 1), (29, .putfield 24, 3), (32, .aload_n 0, 1), (33, .aload_n 2, 1), (34, .putfield 28, 3), (37, .aload_n 0, 1), (38, .aload_n 3, 1), (39, .putfield 32, 3), (42, .return_, 1)]
set_option maxRecDepth 20000 in
theorem daX7_init : ∀ x ∈ tbX7_init, decode cX7_init x.1 = .ok x.2 := by decide +kernel
theorem dkX7_init {i pc n : Nat} {ins : Instr} (h : tbX7_init[i]? = some (pc, ins, n)) : decode cX7_init pc = .ok (ins, n) := daX7_init (pc, ins, n) (List.mem_of_getElem? h)
def bkX7_init (cy : Nat → Nat) (B : Nat) (a1 a2 a3 : Nat) : List va_E := [.inr (7, [.ref a1, .ref a2, .ref a3, .ref (B + 1), .ref (B + 2), .int (-1)]), .inl (cy 0, 1545, .inl (fun _ => 0)), .inl (cy 0, 1545, .inl (fun _ => 0))]
set_option maxRecDepth 20000 in
set_option maxHeartbeats 4000000 in
theorem kcX7_init (l : Launch) (D : va_G) (cy ax : Nat → Nat) (B : Nat) (a1 a2 a3 : Nat) : Kc l D cy ax yX7_init cX7_init 4 1 2 3090 [.ref B, .ref a1, .ref a2, .ref a3] B [.inr (7, [.null, .null, .null, .null, .null, .int 0])] (bkX7_init cy B a1 a2 a3) := by
  refine kc_of (own := RX7) (lv := [(0, .ref B), (1, .ref a1), (2, .ref a2), (3, .ref a3)]) rfl rfl rfl (Nat.le_of_ble_eq_true rfl) rfl rfl (fun X hX => ?_)
  refine qc_aload_n (n := 1) 0 (dkX7_init (i := 0) rfl) rfl rfl ?_
  refine qc_obj (n := 4) (dkX7_init (i := 1) rfl) rfl koX7_5 kob1 kob2 rfl (Nat.le_of_ble_eq_true rfl) ?_
  refine qc_aload_n (n := 5) 0 (dkX7_init (i := 2) rfl) rfl rfl ?_
  refine qc_sipush (n := 8) 1545 (dkX7_init (i := 3) rfl) rfl (by decide) ?_
  refine qc_arr 0 (n := 10) (r := 1) (1545, .inl (fun _ => 0)) (dkX7_init (i := 4) rfl) rfl rfl kac0 rfl (fun _ h => h) (fun _ => rfl) (by decide) (by decide) (by decide) rfl rfl rfl ?_
  refine qc_putF (n := 13) (v := .ref (B + 1)) (es2 := [.inr (7, [.null, .null, .null, .ref (B + 1), .null, .int 0]), .inl (cy 0, 1545, .inl (fun _ => 0))]) 0 3 (dkX7_init (i := 5) rfl) rfl rfl rfl gnX7 (Nat.le_of_ble_eq_true rfl) jfX7_13 (Nat.le_of_ble_eq_true rfl) tyX7_ok nmX7 rfl rfl rfl rfl rfl ?_
  refine qc_aload_n (n := 14) 0 (dkX7_init (i := 6) rfl) rfl rfl ?_
  refine qc_sipush (n := 17) 1545 (dkX7_init (i := 7) rfl) rfl (by decide) ?_
  refine qc_arr 0 (n := 19) (r := 2) (1545, .inl (fun _ => 0)) (dkX7_init (i := 8) rfl) rfl rfl kac0 rfl (fun _ h => h) (fun _ => rfl) (by decide) (by decide) (by decide) rfl rfl rfl ?_
  refine qc_putF (n := 22) (v := .ref (B + 2)) (es2 := [.inr (7, [.null, .null, .null, .ref (B + 1), .ref (B + 2), .int 0]), .inl (cy 0, 1545, .inl (fun _ => 0)), .inl (cy 0, 1545, .inl (fun _ => 0))]) 0 4 (dkX7_init (i := 9) rfl) rfl rfl rfl gnX7 (Nat.le_of_ble_eq_true rfl) jfX7_17 (Nat.le_of_ble_eq_true rfl) tyX7_ok nmX7 rfl rfl rfl rfl rfl ?_
  refine qc_aload_n (n := 23) 0 (dkX7_init (i := 10) rfl) rfl rfl ?_
  refine qc_iconst (n := 24) (-1) (dkX7_init (i := 11) rfl) rfl (by decide) ?_
  refine qc_put (n := 27) (v := .int (-1)) (es2 := [.inr (7, [.null, .null, .null, .ref (B + 1), .ref (B + 2), .int (-1)]), .inl (cy 0, 1545, .inl (fun _ => 0)), .inl (cy 0, 1545, .inl (fun _ => 0))]) 0 5 (dkX7_init (i := 12) rfl) rfl rfl rfl gnX7 (Nat.le_of_ble_eq_true rfl) jfX7_20 (Nat.le_of_ble_eq_true rfl) tyX7_ok nmX7 rfl rfl rfl rfl ?_
  refine qc_aload_n (n := 28) 0 (dkX7_init (i := 13) rfl) rfl rfl ?_
  refine qc_aload_n (n := 29) 1 (dkX7_init (i := 14) rfl) rfl rfl ?_
  refine qc_putF (n := 32) (v := .ref a1) (es2 := [.inr (7, [.ref a1, .null, .null, .ref (B + 1), .ref (B + 2), .int (-1)]), .inl (cy 0, 1545, .inl (fun _ => 0)), .inl (cy 0, 1545, .inl (fun _ => 0))]) 0 0 (dkX7_init (i := 15) rfl) rfl rfl rfl gnX7 (Nat.le_of_ble_eq_true rfl) jfX7_24 (Nat.le_of_ble_eq_true rfl) tyX7_ok nmX7 rfl rfl rfl rfl rfl ?_
  refine qc_aload_n (n := 33) 0 (dkX7_init (i := 16) rfl) rfl rfl ?_
  refine qc_aload_n (n := 34) 2 (dkX7_init (i := 17) rfl) rfl rfl ?_
  refine qc_putF (n := 37) (v := .ref a2) (es2 := [.inr (7, [.ref a1, .ref a2, .null, .ref (B + 1), .ref (B + 2), .int (-1)]), .inl (cy 0, 1545, .inl (fun _ => 0)), .inl (cy 0, 1545, .inl (fun _ => 0))]) 0 1 (dkX7_init (i := 18) rfl) rfl rfl rfl gnX7 (Nat.le_of_ble_eq_true rfl) jfX7_28 (Nat.le_of_ble_eq_true rfl) tyX7_ok nmX7 rfl rfl rfl rfl rfl ?_
  refine qc_aload_n (n := 38) 0 (dkX7_init (i := 19) rfl) rfl rfl ?_
  refine qc_aload_n (n := 39) 3 (dkX7_init (i := 20) rfl) rfl rfl ?_
  refine qc_putF (n := 42) (v := .ref a3) (es2 := [.inr (7, [.ref a1, .ref a2, .ref a3, .ref (B + 1), .ref (B + 2), .int (-1)]), .inl (cy 0, 1545, .inl (fun _ => 0)), .inl (cy 0, 1545, .inl (fun _ => 0))]) 0 2 (dkX7_init (i := 21) rfl) rfl rfl rfl gnX7 (Nat.le_of_ble_eq_true rfl) jfX7_32 (Nat.le_of_ble_eq_true rfl) tyX7_ok nmX7 rfl rfl rfl rfl rfl ?_
  exact qc_ret (dkX7_init (i := 22) rfl) rfl rfl
def tbX8_init : List (Nat × Instr × Nat) := [(0, .aload_n 0, 1), (1, .invokespecial 1, 3), (4, .aload_n 0, 1), (5, .sipush 2000, 3), (8, .newarray .byte, 2), (10, .putfield 9, 3), (13, .return_, 1)]
set_option maxRecDepth 20000 in
theorem daX8_init : ∀ x ∈ tbX8_init, decode cX8_init x.1 = .ok x.2 := by decide +kernel
theorem dkX8_init {i pc n : Nat} {ins : Instr} (h : tbX8_init[i]? = some (pc, ins, n)) : decode cX8_init pc = .ok (ins, n) := daX8_init (pc, ins, n) (List.mem_of_getElem? h)
def bkX8_init (cy : Nat → Nat) (B : Nat) : List va_E := [.inr (8, [.ref (B + 1), .int 0]), .inl (cy 1, 2000, .inl (fun _ => 0))]
set_option maxRecDepth 20000 in
set_option maxHeartbeats 4000000 in
theorem kcX8_init (l : Launch) (D : va_G) (cy ax : Nat → Nat) (B : Nat) : Kc l D cy ax yX8_init cX8_init 1 1 1 2000 [.ref B] B [.inr (8, [.null, .int 0])] (bkX8_init cy B) := by
  refine kc_of (own := RX8) (lv := [(0, .ref B)]) rfl rfl rfl (Nat.le_of_ble_eq_true rfl) rfl rfl (fun X hX => ?_)
  refine qc_aload_n (n := 1) 0 (dkX8_init (i := 0) rfl) rfl rfl ?_
  refine qc_obj (n := 4) (dkX8_init (i := 1) rfl) rfl koX8_1 kob1 kob2 rfl (Nat.le_of_ble_eq_true rfl) ?_
  refine qc_aload_n (n := 5) 0 (dkX8_init (i := 2) rfl) rfl rfl ?_
  refine qc_sipush (n := 8) 2000 (dkX8_init (i := 3) rfl) rfl (by decide) ?_
  refine qc_arr 1 (n := 10) (r := 1) (2000, .inl (fun _ => 0)) (dkX8_init (i := 4) rfl) rfl rfl kac1 rfl (fun _ h => h) (fun _ => rfl) (by decide) (by decide) (by decide) rfl rfl rfl ?_
  refine qc_putF (n := 13) (v := .ref (B + 1)) (es2 := [.inr (8, [.ref (B + 1), .int 0]), .inl (cy 1, 2000, .inl (fun _ => 0))]) 0 0 (dkX8_init (i := 5) rfl) rfl rfl rfl gnX8 (Nat.le_of_ble_eq_true rfl) jfX8_9 (Nat.le_of_ble_eq_true rfl) tyX8_ok nmX8 rfl rfl rfl rfl rfl ?_
  exact qc_ret (dkX8_init (i := 6) rfl) rfl rfl
def tbX9_init : List (Nat × Instr × Nat) := [(0, .aload_n 0, 1), (1, .invokespecial 3, 3), (4, .aload_n 0, 1), (5, .sipush 401, 3), (8, .newarray .int, 2), (10, .putfield 11, 3), (13, .aload_n 0, 1), (14, .sipush 401, 3), (17, .newarray .int, 2), (19, .putfield 15, 3), (22, .aload_n 0, 1), (23, .sipush 401, 3), (26, .newarray .long, 2), (28, .putfield 18, 3), (31, .return_, 1)]
set_option maxRecDepth 20000 in
theorem daX9_init : ∀ x ∈ tbX9_init, decode cX9_init x.1 = .ok x.2 := by decide +kernel
theorem dkX9_init {i pc n : Nat} {ins : Instr} (h : tbX9_init[i]? = some (pc, ins, n)) : decode cX9_init pc = .ok (ins, n) := daX9_init (pc, ins, n) (List.mem_of_getElem? h)
def bkX9_init (cy : Nat → Nat) (B : Nat) : List va_E := [.inr (9, [.ref (B + 1), .ref (B + 2), .ref (B + 3), .int 0, .int 0]), .inl (cy 0, 401, .inl (fun _ => 0)), .inl (cy 0, 401, .inl (fun _ => 0)), .inl (cy 3, 401, .inr (.inl (fun _ => 0)))]
set_option maxRecDepth 20000 in
set_option maxHeartbeats 4000000 in
theorem kcX9_init (l : Launch) (D : va_G) (cy ax : Nat → Nat) (B : Nat) : Kc l D cy ax yX9_init cX9_init 1 1 3 1203 [.ref B] B [.inr (9, [.null, .null, .null, .int 0, .int 0])] (bkX9_init cy B) := by
  refine kc_of (own := RX9) (lv := [(0, .ref B)]) rfl rfl rfl (Nat.le_of_ble_eq_true rfl) rfl rfl (fun X hX => ?_)
  refine qc_aload_n (n := 1) 0 (dkX9_init (i := 0) rfl) rfl rfl ?_
  refine qc_obj (n := 4) (dkX9_init (i := 1) rfl) rfl koX9_3 kob1 kob2 rfl (Nat.le_of_ble_eq_true rfl) ?_
  refine qc_aload_n (n := 5) 0 (dkX9_init (i := 2) rfl) rfl rfl ?_
  refine qc_sipush (n := 8) 401 (dkX9_init (i := 3) rfl) rfl (by decide) ?_
  refine qc_arr 0 (n := 10) (r := 1) (401, .inl (fun _ => 0)) (dkX9_init (i := 4) rfl) rfl rfl kac0 rfl (fun _ h => h) (fun _ => rfl) (by decide) (by decide) (by decide) rfl rfl rfl ?_
  refine qc_putF (n := 13) (v := .ref (B + 1)) (es2 := [.inr (9, [.ref (B + 1), .null, .null, .int 0, .int 0]), .inl (cy 0, 401, .inl (fun _ => 0))]) 0 0 (dkX9_init (i := 5) rfl) rfl rfl rfl gnX9 (Nat.le_of_ble_eq_true rfl) jfX9_11 (Nat.le_of_ble_eq_true rfl) tyX9_ok nmX9 rfl rfl rfl rfl rfl ?_
  refine qc_aload_n (n := 14) 0 (dkX9_init (i := 6) rfl) rfl rfl ?_
  refine qc_sipush (n := 17) 401 (dkX9_init (i := 7) rfl) rfl (by decide) ?_
  refine qc_arr 0 (n := 19) (r := 2) (401, .inl (fun _ => 0)) (dkX9_init (i := 8) rfl) rfl rfl kac0 rfl (fun _ h => h) (fun _ => rfl) (by decide) (by decide) (by decide) rfl rfl rfl ?_
  refine qc_putF (n := 22) (v := .ref (B + 2)) (es2 := [.inr (9, [.ref (B + 1), .ref (B + 2), .null, .int 0, .int 0]), .inl (cy 0, 401, .inl (fun _ => 0)), .inl (cy 0, 401, .inl (fun _ => 0))]) 0 1 (dkX9_init (i := 9) rfl) rfl rfl rfl gnX9 (Nat.le_of_ble_eq_true rfl) jfX9_15 (Nat.le_of_ble_eq_true rfl) tyX9_ok nmX9 rfl rfl rfl rfl rfl ?_
  refine qc_aload_n (n := 23) 0 (dkX9_init (i := 10) rfl) rfl rfl ?_
  refine qc_sipush (n := 26) 401 (dkX9_init (i := 11) rfl) rfl (by decide) ?_
  refine qc_arr 3 (n := 28) (r := 3) (401, .inr (.inl (fun _ => 0))) (dkX9_init (i := 12) rfl) rfl rfl kac3 rfl (fun _ h => h) (fun _ => rfl) (by decide) (by decide) (by decide) rfl rfl rfl ?_
  refine qc_putF (n := 31) (v := .ref (B + 3)) (es2 := [.inr (9, [.ref (B + 1), .ref (B + 2), .ref (B + 3), .int 0, .int 0]), .inl (cy 0, 401, .inl (fun _ => 0)), .inl (cy 0, 401, .inl (fun _ => 0)), .inl (cy 3, 401, .inr (.inl (fun _ => 0)))]) 0 2 (dkX9_init (i := 13) rfl) rfl rfl rfl gnX9 (Nat.le_of_ble_eq_true rfl) jfX9_18 (Nat.le_of_ble_eq_true rfl) tyX9_ok nmX9 rfl rfl rfl rfl rfl ?_
  exact qc_ret (dkX9_init (i := 14) rfl) rfl rfl
def tbX10_init : List (Nat × Instr × Nat) := [(0, .aload_n 0, 1), (1, .invokespecial 3, 3), (4, .aload_n 0, 1), (5, .sipush 1000, 3), (8, .newarray .int, 2), (10, .putfield 11, 3), (13, .aload_n 0, 1), (14, .aload_n 1, 1), (15, .putfield 15, 3), (18, .aload_n 0, 1), (19, .aload_n 2, 1), (20, .putfield 19, 3), (23, .return_, 1)]
set_option maxRecDepth 20000 in
theorem daX10_init : ∀ x ∈ tbX10_init, decode cX10_init x.1 = .ok x.2 := by decide +kernel
theorem dkX10_init {i pc n : Nat} {ins : Instr} (h : tbX10_init[i]? = some (pc, ins, n)) : decode cX10_init pc = .ok (ins, n) := daX10_init (pc, ins, n) (List.mem_of_getElem? h)
def bkX10_init (cy : Nat → Nat) (B : Nat) (a1 a2 : Nat) : List va_E := [.inr (10, [.ref a1, .ref a2, .ref (B + 1), .int 0]), .inl (cy 0, 1000, .inl (fun _ => 0))]
set_option maxRecDepth 20000 in
set_option maxHeartbeats 4000000 in
theorem kcX10_init (l : Launch) (D : va_G) (cy ax : Nat → Nat) (B : Nat) (a1 a2 : Nat) : Kc l D cy ax yX10_init cX10_init 3 1 1 1000 [.ref B, .ref a1, .ref a2] B [.inr (10, [.null, .null, .null, .int 0])] (bkX10_init cy B a1 a2) := by
  refine kc_of (own := RX10) (lv := [(0, .ref B), (1, .ref a1), (2, .ref a2)]) rfl rfl rfl (Nat.le_of_ble_eq_true rfl) rfl rfl (fun X hX => ?_)
  refine qc_aload_n (n := 1) 0 (dkX10_init (i := 0) rfl) rfl rfl ?_
  refine qc_obj (n := 4) (dkX10_init (i := 1) rfl) rfl koX10_3 kob1 kob2 rfl (Nat.le_of_ble_eq_true rfl) ?_
  refine qc_aload_n (n := 5) 0 (dkX10_init (i := 2) rfl) rfl rfl ?_
  refine qc_sipush (n := 8) 1000 (dkX10_init (i := 3) rfl) rfl (by decide) ?_
  refine qc_arr 0 (n := 10) (r := 1) (1000, .inl (fun _ => 0)) (dkX10_init (i := 4) rfl) rfl rfl kac0 rfl (fun _ h => h) (fun _ => rfl) (by decide) (by decide) (by decide) rfl rfl rfl ?_
  refine qc_putF (n := 13) (v := .ref (B + 1)) (es2 := [.inr (10, [.null, .null, .ref (B + 1), .int 0]), .inl (cy 0, 1000, .inl (fun _ => 0))]) 0 2 (dkX10_init (i := 5) rfl) rfl rfl rfl gnX10 (Nat.le_of_ble_eq_true rfl) jfX10_11 (Nat.le_of_ble_eq_true rfl) tyX10_ok nmX10 rfl rfl rfl rfl rfl ?_
  refine qc_aload_n (n := 14) 0 (dkX10_init (i := 6) rfl) rfl rfl ?_
  refine qc_aload_n (n := 15) 1 (dkX10_init (i := 7) rfl) rfl rfl ?_
  refine qc_putF (n := 18) (v := .ref a1) (es2 := [.inr (10, [.ref a1, .null, .ref (B + 1), .int 0]), .inl (cy 0, 1000, .inl (fun _ => 0))]) 0 0 (dkX10_init (i := 8) rfl) rfl rfl rfl gnX10 (Nat.le_of_ble_eq_true rfl) jfX10_15 (Nat.le_of_ble_eq_true rfl) tyX10_ok nmX10 rfl rfl rfl rfl rfl ?_
  refine qc_aload_n (n := 19) 0 (dkX10_init (i := 9) rfl) rfl rfl ?_
  refine qc_aload_n (n := 20) 2 (dkX10_init (i := 10) rfl) rfl rfl ?_
  refine qc_putF (n := 23) (v := .ref a2) (es2 := [.inr (10, [.ref a1, .ref a2, .ref (B + 1), .int 0]), .inl (cy 0, 1000, .inl (fun _ => 0))]) 0 1 (dkX10_init (i := 11) rfl) rfl rfl rfl gnX10 (Nat.le_of_ble_eq_true rfl) jfX10_19 (Nat.le_of_ble_eq_true rfl) tyX10_ok nmX10 rfl rfl rfl rfl rfl ?_
  exact qc_ret (dkX10_init (i := 12) rfl) rfl rfl
