def tbJ6_bitCount_0f7a4 : List (Nat × Instr × Nat) := [(0, .iload_n 0, 1), (1, .iload_n 0, 1), (2, .iconst 1, 1), (3, .iushr, 1), (4, .ldc_w 265, 3), (7, .iand, 1), (8, .isub, 1), (9, .istore_n 0, 1), (10, .iload_n 0, 1), (11, .ldc_w 266, 3), (14, .iand, 1), (15, .iload_n 0, 1), (16, .iconst 2, 1), (17, .iushr, 1), (18, .ldc_w 266, 3), (21, .iand, 1), (22, .iadd, 1), (23, .istore_n 0, 1), (24, .iload_n 0, 1), (25, .iload_n 0, 1), (26, .iconst 4, 1), (27, .iushr, 1), (28, .iadd, 1), (29, .ldc_w 267, 3), (32, .iand, 1), (33, .istore_n 0, 1), (34, .iload_n 0, 1), (35, .iload_n 0, 1), (36, .bipush 8, 2), (38, .iushr, 1), (39, .iadd, 1), (40, .istore_n 0, 1), (41, .iload_n 0, 1), (42, .iload_n 0, 1), (43, .bipush 16, 2), (45, .iushr, 1), (46, .iadd, 1), (47, .istore_n 0, 1), (48, .iload_n 0, 1), (49, .bipush 63, 2), (51, .iand, 1), (52, .ireturn, 1)]
set_option maxRecDepth 20000 in
theorem daJ6_bitCount_0f7a4 : ∀ x ∈ tbJ6_bitCount_0f7a4, decode cJ6_bitCount_0f7a4 x.1 = .ok x.2 := by decide +kernel
theorem dkJ6_bitCount_0f7a4 {i pc n : Nat} {ins : Instr} (h : tbJ6_bitCount_0f7a4[i]? = some (pc, ins, n)) : decode cJ6_bitCount_0f7a4 pc = .ok (ins, n) := daJ6_bitCount_0f7a4 (pc, ins, n) (List.mem_of_getElem? h)
def fJ6_bitCount_0f7a4 (x0 : Int32) : Option Int32 :=
  qv_b ((x0 - ((Int32.toUInt32 x0 >>> (Int32.toUInt32 1 &&& Int32.toUInt32 31)).toInt32 &&& 1431655765)) : Int32) fun x0_1 =>
  qv_b (((x0_1 &&& 858993459) + ((Int32.toUInt32 x0_1 >>> (Int32.toUInt32 2 &&& Int32.toUInt32 31)).toInt32 &&& 858993459)) : Int32) fun x0_2 =>
  qv_b (((x0_2 + (Int32.toUInt32 x0_2 >>> (Int32.toUInt32 4 &&& Int32.toUInt32 31)).toInt32) &&& 252645135) : Int32) fun x0_3 =>
  qv_b ((x0_3 + (Int32.toUInt32 x0_3 >>> (Int32.toUInt32 8 &&& Int32.toUInt32 31)).toInt32) : Int32) fun x0_4 =>
  qv_b ((x0_4 + (Int32.toUInt32 x0_4 >>> (Int32.toUInt32 16 &&& Int32.toUInt32 31)).toInt32) : Int32) fun x0_5 =>
  some (x0_5 &&& 63)
set_option maxRecDepth 20000 in
set_option maxHeartbeats 4000000 in
theorem wJ6_bitCount_0f7a4 (G : qv_GT) (S0 : qv_St) (x0 : Int32) : ∀ r, fJ6_bitCount_0f7a4 x0 = some r → Cn G Lk yJ6_bitCount_0f7a4 cJ6_bitCount_0f7a4 1 (some .int) 1 [.int x0] S0 ((qe_i S0) r) := by
  refine cn_of (own := RJ6) (emb := (qe_i S0)) (lv := [(0, .int x0)]) rfl rfl (Nat.le_of_ble_eq_true rfl) rfl (fun X => ?_)
  unfold fJ6_bitCount_0f7a4
  refine qr_iload_n (n := 1) 0 (dkJ6_bitCount_0f7a4 (i := 0) rfl) rfl rfl ?_
  refine qr_iload_n (n := 2) 0 (dkJ6_bitCount_0f7a4 (i := 1) rfl) rfl rfl ?_
  refine qr_iconst (n := 3) 1 (dkJ6_bitCount_0f7a4 (i := 2) rfl) rfl (by decide) ?_
  refine qr_iushr (n := 4) (dkJ6_bitCount_0f7a4 (i := 3) rfl) rfl ?_
  refine qr_ldcw (n := 7) 1431655765 (dkJ6_bitCount_0f7a4 (i := 4) rfl) rfl kcJ6_265 ?_
  refine qr_iand (n := 8) (dkJ6_bitCount_0f7a4 (i := 5) rfl) rfl ?_
  refine qr_isub (n := 9) (dkJ6_bitCount_0f7a4 (i := 6) rfl) rfl ?_
  refine qr_b (α := Int32) (x0 - ((Int32.toUInt32 x0 >>> (Int32.toUInt32 1 &&& Int32.toUInt32 31)).toInt32 &&& 1431655765)) (lvf := fun _ => [(0, .int x0)]) (stf := fun z => .int z :: []) (Sf := fun _ => S0) (fun x0_1 => ?_)
  refine qr_istore_n (n := 10) (lv2 := [(0, .int x0_1)]) [0] (dkJ6_bitCount_0f7a4 (i := 7) rfl) rfl rfl (by decide) rfl ?_
  refine qr_iload_n (n := 11) 0 (dkJ6_bitCount_0f7a4 (i := 8) rfl) rfl rfl ?_
  refine qr_ldcw (n := 14) 858993459 (dkJ6_bitCount_0f7a4 (i := 9) rfl) rfl kcJ6_266 ?_
  refine qr_iand (n := 15) (dkJ6_bitCount_0f7a4 (i := 10) rfl) rfl ?_
  refine qr_iload_n (n := 16) 0 (dkJ6_bitCount_0f7a4 (i := 11) rfl) rfl rfl ?_
  refine qr_iconst (n := 17) 2 (dkJ6_bitCount_0f7a4 (i := 12) rfl) rfl (by decide) ?_
  refine qr_iushr (n := 18) (dkJ6_bitCount_0f7a4 (i := 13) rfl) rfl ?_
  refine qr_ldcw (n := 21) 858993459 (dkJ6_bitCount_0f7a4 (i := 14) rfl) rfl kcJ6_266 ?_
  refine qr_iand (n := 22) (dkJ6_bitCount_0f7a4 (i := 15) rfl) rfl ?_
  refine qr_iadd (n := 23) (dkJ6_bitCount_0f7a4 (i := 16) rfl) rfl ?_
  refine qr_b (α := Int32) ((x0_1 &&& 858993459) + ((Int32.toUInt32 x0_1 >>> (Int32.toUInt32 2 &&& Int32.toUInt32 31)).toInt32 &&& 858993459)) (lvf := fun _ => [(0, .int x0_1)]) (stf := fun z => .int z :: []) (Sf := fun _ => S0) (fun x0_2 => ?_)
  refine qr_istore_n (n := 24) (lv2 := [(0, .int x0_2)]) [0] (dkJ6_bitCount_0f7a4 (i := 17) rfl) rfl rfl (by decide) rfl ?_
  refine qr_iload_n (n := 25) 0 (dkJ6_bitCount_0f7a4 (i := 18) rfl) rfl rfl ?_
  refine qr_iload_n (n := 26) 0 (dkJ6_bitCount_0f7a4 (i := 19) rfl) rfl rfl ?_
  refine qr_iconst (n := 27) 4 (dkJ6_bitCount_0f7a4 (i := 20) rfl) rfl (by decide) ?_
  refine qr_iushr (n := 28) (dkJ6_bitCount_0f7a4 (i := 21) rfl) rfl ?_
  refine qr_iadd (n := 29) (dkJ6_bitCount_0f7a4 (i := 22) rfl) rfl ?_
  refine qr_ldcw (n := 32) 252645135 (dkJ6_bitCount_0f7a4 (i := 23) rfl) rfl kcJ6_267 ?_
  refine qr_iand (n := 33) (dkJ6_bitCount_0f7a4 (i := 24) rfl) rfl ?_
  refine qr_b (α := Int32) ((x0_2 + (Int32.toUInt32 x0_2 >>> (Int32.toUInt32 4 &&& Int32.toUInt32 31)).toInt32) &&& 252645135) (lvf := fun _ => [(0, .int x0_2)]) (stf := fun z => .int z :: []) (Sf := fun _ => S0) (fun x0_3 => ?_)
  refine qr_istore_n (n := 34) (lv2 := [(0, .int x0_3)]) [0] (dkJ6_bitCount_0f7a4 (i := 25) rfl) rfl rfl (by decide) rfl ?_
  refine qr_iload_n (n := 35) 0 (dkJ6_bitCount_0f7a4 (i := 26) rfl) rfl rfl ?_
  refine qr_iload_n (n := 36) 0 (dkJ6_bitCount_0f7a4 (i := 27) rfl) rfl rfl ?_
  refine qr_bipush (n := 38) 8 (dkJ6_bitCount_0f7a4 (i := 28) rfl) rfl (by decide) ?_
  refine qr_iushr (n := 39) (dkJ6_bitCount_0f7a4 (i := 29) rfl) rfl ?_
  refine qr_iadd (n := 40) (dkJ6_bitCount_0f7a4 (i := 30) rfl) rfl ?_
  refine qr_b (α := Int32) (x0_3 + (Int32.toUInt32 x0_3 >>> (Int32.toUInt32 8 &&& Int32.toUInt32 31)).toInt32) (lvf := fun _ => [(0, .int x0_3)]) (stf := fun z => .int z :: []) (Sf := fun _ => S0) (fun x0_4 => ?_)
  refine qr_istore_n (n := 41) (lv2 := [(0, .int x0_4)]) [0] (dkJ6_bitCount_0f7a4 (i := 31) rfl) rfl rfl (by decide) rfl ?_
  refine qr_iload_n (n := 42) 0 (dkJ6_bitCount_0f7a4 (i := 32) rfl) rfl rfl ?_
  refine qr_iload_n (n := 43) 0 (dkJ6_bitCount_0f7a4 (i := 33) rfl) rfl rfl ?_
  refine qr_bipush (n := 45) 16 (dkJ6_bitCount_0f7a4 (i := 34) rfl) rfl (by decide) ?_
  refine qr_iushr (n := 46) (dkJ6_bitCount_0f7a4 (i := 35) rfl) rfl ?_
  refine qr_iadd (n := 47) (dkJ6_bitCount_0f7a4 (i := 36) rfl) rfl ?_
  refine qr_b (α := Int32) (x0_4 + (Int32.toUInt32 x0_4 >>> (Int32.toUInt32 16 &&& Int32.toUInt32 31)).toInt32) (lvf := fun _ => [(0, .int x0_4)]) (stf := fun z => .int z :: []) (Sf := fun _ => S0) (fun x0_5 => ?_)
  refine qr_istore_n (n := 48) (lv2 := [(0, .int x0_5)]) [0] (dkJ6_bitCount_0f7a4 (i := 37) rfl) rfl rfl (by decide) rfl ?_
  refine qr_iload_n (n := 49) 0 (dkJ6_bitCount_0f7a4 (i := 38) rfl) rfl rfl ?_
  refine qr_bipush (n := 51) 63 (dkJ6_bitCount_0f7a4 (i := 39) rfl) rfl (by decide) ?_
  refine qr_iand (n := 52) (dkJ6_bitCount_0f7a4 (i := 40) rfl) rfl ?_
  exact qr_iret (dkJ6_bitCount_0f7a4 (i := 41) rfl) rfl rfl
def tbX3_fewestLeft : List (Nat × Instr × Nat) := [(0, .aload_n 0, 1), (1, .invokevirtual 74, 3), (4, .istore_n 2, 1), (5, .iconst 0, 1), (6, .istore_n 3, 1), (7, .iload_n 3, 1), (8, .aload_n 0, 1), (9, .invokevirtual 74, 3), (12, .if_icmp .ge 37, 3), (15, .aload_n 0, 1), (16, .getfield 18, 3), (19, .aload_n 0, 1), (20, .invokevirtual 74, 3), (23, .iload_n 3, 1), (24, .isub, 1), (25, .iaload, 1), (26, .iload_n 1, 1), (27, .if_icmp .gt 16, 3), (30, .iload_n 3, 1), (31, .invokestatic 84, 3), (34, .iload_n 2, 1), (35, .invokestatic 84, 3), (38, .if_icmp .ge 5, 3), (41, .iload_n 3, 1), (42, .istore_n 2, 1), (43, .iinc 3 1, 3), (46, .goto (-39), 3), (49, .iload_n 2, 1), (50, .ireturn, 1)]
set_option maxRecDepth 20000 in
theorem daX3_fewestLeft : ∀ x ∈ tbX3_fewestLeft, decode cX3_fewestLeft x.1 = .ok x.2 := by decide +kernel
theorem dkX3_fewestLeft {i pc n : Nat} {ins : Instr} (h : tbX3_fewestLeft[i]? = some (pc, ins, n)) : decode cX3_fewestLeft pc = .ok (ins, n) := daX3_fewestLeft (pc, ins, n) (List.mem_of_getElem? h)
def fX3_fewestLeft (S0 : qv_St) (x1 : Int32) : Option Int32 :=
  (fX3_all S0).bind fun r_1 =>
  qv_lp2 qv_N (fun self_1 (x2_1 : Int32) (x3_1 : Int32) =>
    (fX3_all S0).bind fun r_2 =>
    if r_2 ≤ x3_1 then
      some x2_1
    else
      (fX3_all S0).bind fun r_3 =>
      qv_ck (r_3 - x3_1) 32 <|
      qv_j (fun (x2_2 : Int32) =>
        self_1 x2_2 (x3_1 + 1)) fun K_1 =>
      if x1 < (S0.1 266 (Int32.toNatClampNeg (r_3 - x3_1))) then
        K_1 x2_1
      else
        (fJ6_bitCount_0f7a4 x3_1).bind fun r_4 =>
        (fJ6_bitCount_0f7a4 x2_1).bind fun r_5 =>
        if r_5 ≤ r_4 then
          K_1 x2_1
        else
          K_1 x3_1) r_1 0
set_option maxRecDepth 20000 in
set_option maxHeartbeats 4000000 in
theorem wX3_fewestLeft (G : qv_GT) (S0 : qv_St) (x1 : Int32) : ∀ r, fX3_fewestLeft S0 x1 = some r → Cn G Lk yX3_fewestLeft cX3_fewestLeft 4 (some .int) 2 [.ref (G.2.2.1 263), .int x1] S0 ((qe_i S0) r) := by
  refine cn_of (own := RX3) (emb := (qe_i S0)) (lv := [(0, .ref (G.2.2.1 263)), (1, .int x1)]) rfl rfl (Nat.le_of_ble_eq_true rfl) rfl (fun X => ?_)
  unfold fX3_fewestLeft
  refine qr_aload_n (n := 1) 0 (dkX3_fewestLeft (i := 0) rfl) rfl rfl ?_
  refine qr_cvi (n := 4) 263 [] (dkX3_fewestLeft (i := 1) rfl) rfl kvX3_74 rfl rfl (Nat.le_of_ble_eq_true rfl) rfl rfl lkO_263 rfl (wX3_all G S0) (fun r_1 => ?_)
  refine qr_istore_n (n := 5) (lv2 := [(0, .ref (G.2.2.1 263)), (1, .int x1), (2, .int r_1)]) [1, 2, 0] (dkX3_fewestLeft (i := 2) rfl) rfl rfl (by decide) rfl ?_
  refine qr_iconst (n := 6) 0 (dkX3_fewestLeft (i := 3) rfl) rfl (by decide) ?_
  refine qr_istore_n (n := 7) (lv2 := [(0, .ref (G.2.2.1 263)), (1, .int x1), (2, .int r_1), (3, .int 0)]) [1, 2, 3, 0] (dkX3_fewestLeft (i := 4) rfl) rfl rfl (by decide) rfl ?_
  refine qr_lp2 (fun (x2_1 : Int32) (x3_1 : Int32) => [(0, .ref (G.2.2.1 263)), (1, .int x1), (2, .int x2_1), (3, .int x3_1)]) (fun (x2_1 : Int32) (x3_1 : Int32) => S0) (fun self_1 hself_1 x2_1 x3_1 => ?_) qv_N r_1 0
  refine qr_iload_n (n := 8) 3 (dkX3_fewestLeft (i := 5) rfl) rfl rfl ?_
  refine qr_aload_n (n := 9) 0 (dkX3_fewestLeft (i := 6) rfl) rfl rfl ?_
  refine qr_cvi (n := 12) 263 [] (dkX3_fewestLeft (i := 7) rfl) rfl kvX3_74 rfl rfl (Nat.le_of_ble_eq_true rfl) rfl rfl lkO_263 rfl (wX3_all G S0) (fun r_2 => ?_)
  refine qr_icmp_ge (t := 49) (n := 15) (dkX3_fewestLeft (i := 8) rfl) (by decide) rfl ?_ ?_
  · refine qr_iload_n (n := 50) 2 (dkX3_fewestLeft (i := 27) rfl) rfl rfl ?_
    exact qr_iret (dkX3_fewestLeft (i := 28) rfl) rfl rfl
  · refine qr_aload_n (n := 16) 0 (dkX3_fewestLeft (i := 9) rfl) rfl rfl ?_
    refine qr_geta (n := 19) 263 5 266 (dkX3_fewestLeft (i := 10) rfl) rfl lkO_263 rfl gnX3 (Nat.le_of_ble_eq_true rfl) kfX3_18 rfl ?_
    refine qr_aload_n (n := 20) 0 (dkX3_fewestLeft (i := 11) rfl) rfl rfl ?_
    refine qr_cvi (n := 23) 263 [] (dkX3_fewestLeft (i := 12) rfl) rfl kvX3_74 rfl rfl (Nat.le_of_ble_eq_true rfl) rfl rfl lkO_263 rfl (wX3_all G S0) (fun r_3 => ?_)
    refine qr_iload_n (n := 24) 3 (dkX3_fewestLeft (i := 13) rfl) rfl rfl ?_
    refine qr_isub (n := 25) (dkX3_fewestLeft (i := 14) rfl) rfl ?_
    refine qr_iald (n := 26) 266 32 (dkX3_fewestLeft (i := 15) rfl) rfl lkA_266 ?_
    refine qr_iload_n (n := 27) 1 (dkX3_fewestLeft (i := 16) rfl) rfl rfl ?_
    refine qr_j (fun K_1 : Int32 → Option Int32 => ∀ (x2_2 : Int32), VV G Lk X RX3 cX3_fewestLeft 4 (some .int) 2 (qe_i S0) 43 [(0, .ref (G.2.2.1 263)), (1, .int x1), (2, .int x2_2), (3, .int x3_1)] [] S0 (K_1 x2_2)) (fun x2_2 => ?_) (fun K_1 hK_1 => ?_)
    · refine qr_iinc (n := 46) (v := 1) (lv2 := [(0, .ref (G.2.2.1 263)), (1, .int x1), (2, .int x2_2), (3, .int (x3_1 + 1))]) 3 [1, 2, 3, 0] (dkX3_fewestLeft (i := 25) rfl) rfl rfl (by decide) (by decide) rfl ?_
      refine qr_goto (n := 7) (dkX3_fewestLeft (i := 26) rfl) (by decide) ?_
      exact hself_1 x2_2 (x3_1 + 1)
    · refine qr_icmp_gt (t := 43) (n := 30) (dkX3_fewestLeft (i := 17) rfl) (by decide) rfl ?_ ?_
      · exact hK_1 x2_1
      · refine qr_iload_n (n := 31) 3 (dkX3_fewestLeft (i := 18) rfl) rfl rfl ?_
        refine qr_csi (n := 34) [.int x3_1] (dkX3_fewestLeft (i := 19) rfl) rfl kvX3_84 rfl rfl (Nat.le_of_ble_eq_true rfl) rfl rfl (wJ6_bitCount_0f7a4 G S0 x3_1) (fun r_4 => ?_)
        refine qr_iload_n (n := 35) 2 (dkX3_fewestLeft (i := 20) rfl) rfl rfl ?_
        refine qr_csi (n := 38) [.int x2_1] (dkX3_fewestLeft (i := 21) rfl) rfl kvX3_84 rfl rfl (Nat.le_of_ble_eq_true rfl) rfl rfl (wJ6_bitCount_0f7a4 G S0 x2_1) (fun r_5 => ?_)
        refine qr_icmp_ge (t := 43) (n := 41) (dkX3_fewestLeft (i := 22) rfl) (by decide) rfl ?_ ?_
        · exact hK_1 x2_1
        · refine qr_iload_n (n := 42) 3 (dkX3_fewestLeft (i := 23) rfl) rfl rfl ?_
          refine qr_istore_n (n := 43) (lv2 := [(0, .ref (G.2.2.1 263)), (1, .int x1), (2, .int x3_1), (3, .int x3_1)]) [1, 2, 0, 3] (dkX3_fewestLeft (i := 24) rfl) rfl rfl (by decide) rfl ?_
          exact hK_1 x3_1
def tbX3_shotBits : List (Nat × Instr × Nat) := [(0, .iconst 0, 1), (1, .istore_n 2, 1), (2, .iconst 0, 1), (3, .istore_n 3, 1), (4, .iload_n 3, 1), (5, .aload_n 0, 1), (6, .getfield 36, 3), (9, .if_icmp .ge 28, 3), (12, .iload_n 1, 1), (13, .iload_n 3, 1), (14, .ishr, 1), (15, .iconst 1, 1), (16, .iand, 1), (17, .ifCond .eq 14, 3), (20, .iload_n 2, 1), (21, .iconst 1, 1), (22, .aload_n 0, 1), (23, .getfield 11, 3), (26, .iload_n 3, 1), (27, .iaload, 1), (28, .ishl, 1), (29, .ior, 1), (30, .istore_n 2, 1), (31, .iinc 3 1, 3), (34, .goto (-30), 3), (37, .iload_n 2, 1), (38, .ireturn, 1)]
set_option maxRecDepth 20000 in
theorem daX3_shotBits : ∀ x ∈ tbX3_shotBits, decode cX3_shotBits x.1 = .ok x.2 := by decide +kernel
theorem dkX3_shotBits {i pc n : Nat} {ins : Instr} (h : tbX3_shotBits[i]? = some (pc, ins, n)) : decode cX3_shotBits pc = .ok (ins, n) := daX3_shotBits (pc, ins, n) (List.mem_of_getElem? h)
def fX3_shotBits (S0 : qv_St) (x1 : Int32) : Option Int32 :=
  qv_lp2 qv_N (fun self_1 (x2_1 : Int32) (x3_1 : Int32) =>
    if (S0.1 263 7) ≤ x3_1 then
      some x2_1
    else
      qv_j (fun (x2_2 : Int32) =>
        self_1 x2_2 (x3_1 + 1)) fun K_1 =>
      if ((x1 >>> (x3_1 &&& 31)) &&& 1) = 0 then
        K_1 x2_1
      else
        qv_ck x3_1 5 <|
        qv_b ((x2_1 ||| (1 <<< ((S0.1 264 (Int32.toNatClampNeg x3_1)) &&& 31))) : Int32) fun x2_3 =>
        K_1 x2_3) 0 0
set_option maxRecDepth 20000 in
set_option maxHeartbeats 4000000 in
theorem wX3_shotBits (G : qv_GT) (S0 : qv_St) (x1 : Int32) : ∀ r, fX3_shotBits S0 x1 = some r → Cn G Lk yX3_shotBits cX3_shotBits 4 (some .int) 1 [.ref (G.2.2.1 263), .int x1] S0 ((qe_i S0) r) := by
  refine cn_of (own := RX3) (emb := (qe_i S0)) (lv := [(0, .ref (G.2.2.1 263)), (1, .int x1)]) rfl rfl (Nat.le_of_ble_eq_true rfl) rfl (fun X => ?_)
  unfold fX3_shotBits
  refine qr_iconst (n := 1) 0 (dkX3_shotBits (i := 0) rfl) rfl (by decide) ?_
  refine qr_istore_n (n := 2) (lv2 := [(0, .ref (G.2.2.1 263)), (1, .int x1), (2, .int 0)]) [1, 2, 0] (dkX3_shotBits (i := 1) rfl) rfl rfl (by decide) rfl ?_
  refine qr_iconst (n := 3) 0 (dkX3_shotBits (i := 2) rfl) rfl (by decide) ?_
  refine qr_istore_n (n := 4) (lv2 := [(0, .ref (G.2.2.1 263)), (1, .int x1), (2, .int 0), (3, .int 0)]) [1, 2, 3, 0] (dkX3_shotBits (i := 3) rfl) rfl rfl (by decide) rfl ?_
  refine qr_lp2 (fun (x2_1 : Int32) (x3_1 : Int32) => [(0, .ref (G.2.2.1 263)), (1, .int x1), (2, .int x2_1), (3, .int x3_1)]) (fun (x2_1 : Int32) (x3_1 : Int32) => S0) (fun self_1 hself_1 x2_1 x3_1 => ?_) qv_N 0 0
  refine qr_iload_n (n := 5) 3 (dkX3_shotBits (i := 4) rfl) rfl rfl ?_
  refine qr_aload_n (n := 6) 0 (dkX3_shotBits (i := 5) rfl) rfl rfl ?_
  refine qr_geti (n := 9) 263 7 (dkX3_shotBits (i := 6) rfl) rfl lkO_263 rfl gnX3 (Nat.le_of_ble_eq_true rfl) kfX3_36 rfl ?_
  refine qr_icmp_ge (t := 37) (n := 12) (dkX3_shotBits (i := 7) rfl) (by decide) rfl ?_ ?_
  · refine qr_iload_n (n := 38) 2 (dkX3_shotBits (i := 25) rfl) rfl rfl ?_
    exact qr_iret (dkX3_shotBits (i := 26) rfl) rfl rfl
  · refine qr_iload_n (n := 13) 1 (dkX3_shotBits (i := 8) rfl) rfl rfl ?_
    refine qr_iload_n (n := 14) 3 (dkX3_shotBits (i := 9) rfl) rfl rfl ?_
    refine qr_ishr (n := 15) (dkX3_shotBits (i := 10) rfl) rfl ?_
    refine qr_iconst (n := 16) 1 (dkX3_shotBits (i := 11) rfl) rfl (by decide) ?_
    refine qr_iand (n := 17) (dkX3_shotBits (i := 12) rfl) rfl ?_
    refine qr_j (fun K_1 : Int32 → Option Int32 => ∀ (x2_2 : Int32), VV G Lk X RX3 cX3_shotBits 4 (some .int) 1 (qe_i S0) 31 [(0, .ref (G.2.2.1 263)), (1, .int x1), (2, .int x2_2), (3, .int x3_1)] [] S0 (K_1 x2_2)) (fun x2_2 => ?_) (fun K_1 hK_1 => ?_)
    · refine qr_iinc (n := 34) (v := 1) (lv2 := [(0, .ref (G.2.2.1 263)), (1, .int x1), (2, .int x2_2), (3, .int (x3_1 + 1))]) 3 [1, 2, 3, 0] (dkX3_shotBits (i := 23) rfl) rfl rfl (by decide) (by decide) rfl ?_
      refine qr_goto (n := 4) (dkX3_shotBits (i := 24) rfl) (by decide) ?_
      exact hself_1 x2_2 (x3_1 + 1)
    · refine qr_if_eq (t := 31) (n := 20) (dkX3_shotBits (i := 13) rfl) (by decide) rfl ?_ ?_
      · exact hK_1 x2_1
      · refine qr_iload_n (n := 21) 2 (dkX3_shotBits (i := 14) rfl) rfl rfl ?_
        refine qr_iconst (n := 22) 1 (dkX3_shotBits (i := 15) rfl) rfl (by decide) ?_
        refine qr_aload_n (n := 23) 0 (dkX3_shotBits (i := 16) rfl) rfl rfl ?_
        refine qr_geta (n := 26) 263 3 264 (dkX3_shotBits (i := 17) rfl) rfl lkO_263 rfl gnX3 (Nat.le_of_ble_eq_true rfl) kfX3_11 rfl ?_
        refine qr_iload_n (n := 27) 3 (dkX3_shotBits (i := 18) rfl) rfl rfl ?_
        refine qr_iald (n := 28) 264 5 (dkX3_shotBits (i := 19) rfl) rfl lkA_264 ?_
        refine qr_ishl (n := 29) (dkX3_shotBits (i := 20) rfl) rfl ?_
        refine qr_ior (n := 30) (dkX3_shotBits (i := 21) rfl) rfl ?_
        refine qr_b (α := Int32) (x2_1 ||| (1 <<< ((S0.1 264 (Int32.toNatClampNeg x3_1)) &&& 31))) (lvf := fun _ => [(0, .ref (G.2.2.1 263)), (1, .int x1), (2, .int x2_1), (3, .int x3_1)]) (stf := fun z => .int z :: []) (Sf := fun _ => S0) (fun x2_3 => ?_)
        refine qr_istore_n (n := 31) (lv2 := [(0, .ref (G.2.2.1 263)), (1, .int x1), (2, .int x2_3), (3, .int x3_1)]) [1, 2, 0, 3] (dkX3_shotBits (i := 22) rfl) rfl rfl (by decide) rfl ?_
        exact hK_1 x2_3
def tbX4_refuse : List (Nat × Instr × Nat) := [(0, .aload_n 0, 1), (1, .getfield 23, 3), (4, .ifCond .ne 13, 3), (7, .aload_n 0, 1), (8, .iload_n 1, 1), (9, .putfield 23, 3), (12, .aload_n 0, 1), (13, .iload_n 2, 1), (14, .putfield 50, 3), (17, .return_, 1)]
set_option maxRecDepth 20000 in
theorem daX4_refuse : ∀ x ∈ tbX4_refuse, decode cX4_refuse x.1 = .ok x.2 := by decide +kernel
theorem dkX4_refuse {i pc n : Nat} {ins : Instr} (h : tbX4_refuse[i]? = some (pc, ins, n)) : decode cX4_refuse pc = .ok (ins, n) := daX4_refuse (pc, ins, n) (List.mem_of_getElem? h)
def fX4_refuse (S0 : qv_St) (x1 : Int32) (x2 : Int32) : Option qv_St :=
  if (S0.1 7 8) = 0 then
    qv_b (qv_si S0 7 8 x1) fun S_1 =>
    qv_b (qv_si S_1 7 7 x2) fun S_2 =>
    some S_2
  else
    some S0
set_option maxRecDepth 20000 in
set_option maxHeartbeats 4000000 in
theorem wX4_refuse (G : qv_GT) (S0 : qv_St) (x1 : Int32) (x2 : Int32) : ∀ r, fX4_refuse S0 x1 x2 = some r → Cn G Lk yX4_refuse cX4_refuse 3 none 1 [.ref (G.2.2.1 7), .int x1, .int x2] S0 (qe_u r) := by
  refine cn_of (own := RX4) (emb := qe_u) (lv := [(0, .ref (G.2.2.1 7)), (1, .int x1), (2, .int x2)]) rfl rfl (Nat.le_of_ble_eq_true rfl) rfl (fun X => ?_)
  unfold fX4_refuse
  refine qr_aload_n (n := 1) 0 (dkX4_refuse (i := 0) rfl) rfl rfl ?_
  refine qr_geti (n := 4) 7 8 (dkX4_refuse (i := 1) rfl) rfl lkO_7 rfl gnX4 (Nat.le_of_ble_eq_true rfl) kfX4_23 rfl ?_
  refine qr_if_ne (t := 17) (n := 7) (dkX4_refuse (i := 2) rfl) (by decide) rfl ?_ ?_
  · exact qr_vret (dkX4_refuse (i := 9) rfl) rfl rfl
  · refine qr_aload_n (n := 8) 0 (dkX4_refuse (i := 3) rfl) rfl rfl ?_
    refine qr_iload_n (n := 9) 1 (dkX4_refuse (i := 4) rfl) rfl rfl ?_
    refine qr_puti (n := 12) 7 8 (dkX4_refuse (i := 5) rfl) rfl lkO_7 rfl gnX4 (Nat.le_of_ble_eq_true rfl) kfX4_23 rfl tyX4_ok nmX4 rfl rfl (fun S_1 => ?_)
    refine qr_aload_n (n := 13) 0 (dkX4_refuse (i := 6) rfl) rfl rfl ?_
    refine qr_iload_n (n := 14) 2 (dkX4_refuse (i := 7) rfl) rfl rfl ?_
    refine qr_puti (n := 17) 7 7 (dkX4_refuse (i := 8) rfl) rfl lkO_7 rfl gnX4 (Nat.le_of_ble_eq_true rfl) kfX4_50 rfl tyX4_ok nmX4 rfl rfl (fun S_2 => ?_)
    exact qr_vret (dkX4_refuse (i := 9) rfl) rfl rfl
def tbX4_oneMore : List (Nat × Instr × Nat) := [(0, .iload_n 1, 1), (1, .iload_n 2, 1), (2, .if_icmp .lt 12, 3), (5, .aload_n 0, 1), (6, .iconst 2, 1), (7, .aload_n 0, 1), (8, .getfield 26, 3), (11, .invokevirtual 56, 3), (14, .iload_n 1, 1), (15, .iconst 1, 1), (16, .iadd, 1), (17, .ireturn, 1)]
set_option maxRecDepth 20000 in
theorem daX4_oneMore : ∀ x ∈ tbX4_oneMore, decode cX4_oneMore x.1 = .ok x.2 := by decide +kernel
theorem dkX4_oneMore {i pc n : Nat} {ins : Instr} (h : tbX4_oneMore[i]? = some (pc, ins, n)) : decode cX4_oneMore pc = .ok (ins, n) := daX4_oneMore (pc, ins, n) (List.mem_of_getElem? h)
def fX4_oneMore (S0 : qv_St) (x1 : Int32) (x2 : Int32) : Option (qv_St × Int32) :=
  qv_j (fun (S_1 : qv_St) =>
    some (S_1, (x1 + 1))) fun K_1 =>
  if x1 < x2 then
    K_1 S0
  else
    (fX4_refuse S0 2 (S0.1 7 6)).bind fun S_2 =>
    K_1 S_2
set_option maxRecDepth 20000 in
set_option maxHeartbeats 4000000 in
theorem wX4_oneMore (G : qv_GT) (S0 : qv_St) (x1 : Int32) (x2 : Int32) : ∀ r, fX4_oneMore S0 x1 x2 = some r → Cn G Lk yX4_oneMore cX4_oneMore 3 (some .int) 2 [.ref (G.2.2.1 7), .int x1, .int x2] S0 (qe_m r) := by
  refine cn_of (own := RX4) (emb := qe_m) (lv := [(0, .ref (G.2.2.1 7)), (1, .int x1), (2, .int x2)]) rfl rfl (Nat.le_of_ble_eq_true rfl) rfl (fun X => ?_)
  unfold fX4_oneMore
  refine qr_iload_n (n := 1) 1 (dkX4_oneMore (i := 0) rfl) rfl rfl ?_
  refine qr_iload_n (n := 2) 2 (dkX4_oneMore (i := 1) rfl) rfl rfl ?_
  refine qr_j (fun K_1 : qv_St → Option (qv_St × Int32) => ∀ (S_1 : qv_St), VV G Lk X RX4 cX4_oneMore 3 (some .int) 2 qe_m 14 [(1, .int x1)] [] S_1 (K_1 S_1)) (fun S_1 => ?_) (fun K_1 hK_1 => ?_)
  · refine qr_iload_n (n := 15) 0 (dkX4_oneMore (i := 8) rfl) rfl rfl ?_
    refine qr_iconst (n := 16) 1 (dkX4_oneMore (i := 9) rfl) rfl (by decide) ?_
    refine qr_iadd (n := 17) (dkX4_oneMore (i := 10) rfl) rfl ?_
    exact qr_iret (dkX4_oneMore (i := 11) rfl) rfl rfl
  · refine qr_icmp_lt (t := 14) (n := 5) (dkX4_oneMore (i := 2) rfl) (by decide) rfl ?_ ?_
    · refine qr_sub [1] rfl ?_
      exact hK_1 S0
    · refine qr_aload_n (n := 6) 0 (dkX4_oneMore (i := 3) rfl) rfl rfl ?_
      refine qr_iconst (n := 7) 2 (dkX4_oneMore (i := 4) rfl) rfl (by decide) ?_
      refine qr_aload_n (n := 8) 0 (dkX4_oneMore (i := 5) rfl) rfl rfl ?_
      refine qr_geti (n := 11) 7 6 (dkX4_oneMore (i := 6) rfl) rfl lkO_7 rfl gnX4 (Nat.le_of_ble_eq_true rfl) kfX4_26 rfl ?_
      refine qr_cvu (n := 14) 7 [.int 2, .int (S0.1 7 6)] (dkX4_oneMore (i := 7) rfl) rfl kvX4_56 rfl rfl (Nat.le_of_ble_eq_true rfl) rfl rfl lkO_7 rfl (wX4_refuse G S0 2 (S0.1 7 6)) (fun S_2 => ?_)
      refine qr_sub [1] rfl ?_
      exact hK_1 S_2
def tbX4_pass : List (Nat × Instr × Nat) := [(0, .aload_n 0, 1), (1, .getfield 26, 3), (4, .sipush 400, 3), (7, .if_icmp .lt 15, 3), (10, .aload_n 0, 1), (11, .iconst 2, 1), (12, .aload_n 0, 1), (13, .getfield 26, 3), (16, .invokevirtual 56, 3), (19, .goto 13, 3), (22, .aload_n 0, 1), (23, .dup, 1), (24, .getfield 26, 3), (27, .iconst 1, 1), (28, .iadd, 1), (29, .putfield 26, 3), (32, .return_, 1)]
set_option maxRecDepth 20000 in
theorem daX4_pass : ∀ x ∈ tbX4_pass, decode cX4_pass x.1 = .ok x.2 := by decide +kernel
theorem dkX4_pass {i pc n : Nat} {ins : Instr} (h : tbX4_pass[i]? = some (pc, ins, n)) : decode cX4_pass pc = .ok (ins, n) := daX4_pass (pc, ins, n) (List.mem_of_getElem? h)
def fX4_pass (S0 : qv_St) : Option qv_St :=
  if (S0.1 7 6) < 400 then
    qv_b (qv_si S0 7 6 ((S0.1 7 6) + 1)) fun S_1 =>
    some S_1
  else
    (fX4_refuse S0 2 (S0.1 7 6)).bind fun S_2 =>
    some S_2
set_option maxRecDepth 20000 in
set_option maxHeartbeats 4000000 in
theorem wX4_pass (G : qv_GT) (S0 : qv_St) : ∀ r, fX4_pass S0 = some r → Cn G Lk yX4_pass cX4_pass 1 none 2 [.ref (G.2.2.1 7)] S0 (qe_u r) := by
  refine cn_of (own := RX4) (emb := qe_u) (lv := [(0, .ref (G.2.2.1 7))]) rfl rfl (Nat.le_of_ble_eq_true rfl) rfl (fun X => ?_)
  unfold fX4_pass
  refine qr_aload_n (n := 1) 0 (dkX4_pass (i := 0) rfl) rfl rfl ?_
  refine qr_geti (n := 4) 7 6 (dkX4_pass (i := 1) rfl) rfl lkO_7 rfl gnX4 (Nat.le_of_ble_eq_true rfl) kfX4_26 rfl ?_
  refine qr_sipush (n := 7) 400 (dkX4_pass (i := 2) rfl) rfl (by decide) ?_
  refine qr_icmp_lt (t := 22) (n := 10) (dkX4_pass (i := 3) rfl) (by decide) rfl ?_ ?_
  · refine qr_aload_n (n := 23) 0 (dkX4_pass (i := 10) rfl) rfl rfl ?_
    refine qr_dup (n := 24) (dkX4_pass (i := 11) rfl) rfl rfl ?_
    refine qr_geti (n := 27) 7 6 (dkX4_pass (i := 12) rfl) rfl lkO_7 rfl gnX4 (Nat.le_of_ble_eq_true rfl) kfX4_26 rfl ?_
    refine qr_iconst (n := 28) 1 (dkX4_pass (i := 13) rfl) rfl (by decide) ?_
    refine qr_iadd (n := 29) (dkX4_pass (i := 14) rfl) rfl ?_
    refine qr_puti (n := 32) 7 6 (dkX4_pass (i := 15) rfl) rfl lkO_7 rfl gnX4 (Nat.le_of_ble_eq_true rfl) kfX4_26 rfl tyX4_ok nmX4 rfl rfl (fun S_1 => ?_)
    exact qr_vret (dkX4_pass (i := 16) rfl) rfl rfl
  · refine qr_aload_n (n := 11) 0 (dkX4_pass (i := 4) rfl) rfl rfl ?_
    refine qr_iconst (n := 12) 2 (dkX4_pass (i := 5) rfl) rfl (by decide) ?_
    refine qr_aload_n (n := 13) 0 (dkX4_pass (i := 6) rfl) rfl rfl ?_
    refine qr_geti (n := 16) 7 6 (dkX4_pass (i := 7) rfl) rfl lkO_7 rfl gnX4 (Nat.le_of_ble_eq_true rfl) kfX4_26 rfl ?_
    refine qr_cvu (n := 19) 7 [.int 2, .int (S0.1 7 6)] (dkX4_pass (i := 8) rfl) rfl kvX4_56 rfl rfl (Nat.le_of_ble_eq_true rfl) rfl rfl lkO_7 rfl (wX4_refuse G S0 2 (S0.1 7 6)) (fun S_2 => ?_)
    refine qr_goto (n := 32) (dkX4_pass (i := 9) rfl) (by decide) ?_
    exact qr_vret (dkX4_pass (i := 16) rfl) rfl rfl
def tbX4_passOnly : List (Nat × Instr × Nat) := [(0, .aload_n 0, 1), (1, .getfield 23, 3), (4, .ifCond .eq 4, 3), (7, .return_, 1), (8, .aload_n 0, 1), (9, .getfield 19, 3), (12, .aload_n 0, 1), (13, .getfield 26, 3), (16, .invokevirtual 40, 3), (19, .iload_n 1, 1), (20, .if_icmp .ne 10, 3), (23, .aload_n 0, 1), (24, .invokevirtual 60, 3), (27, .goto 12, 3), (30, .aload_n 0, 1), (31, .iconst 1, 1), (32, .aload_n 0, 1), (33, .getfield 26, 3), (36, .invokevirtual 56, 3), (39, .return_, 1)]
set_option maxRecDepth 20000 in
theorem daX4_passOnly : ∀ x ∈ tbX4_passOnly, decode cX4_passOnly x.1 = .ok x.2 := by decide +kernel
theorem dkX4_passOnly {i pc n : Nat} {ins : Instr} (h : tbX4_passOnly[i]? = some (pc, ins, n)) : decode cX4_passOnly pc = .ok (ins, n) := daX4_passOnly (pc, ins, n) (List.mem_of_getElem? h)
def fX4_passOnly (S0 : qv_St) (x1 : Int32) : Option qv_St :=
  if (S0.1 7 8) = 0 then
    (fX9_kindAt S0 (S0.1 7 6)).bind fun r_1 =>
    if r_1 = x1 then
      (fX4_pass S0).bind fun S_2 =>
      some S_2
    else
      (fX4_refuse S0 1 (S0.1 7 6)).bind fun S_1 =>
      some S_1
  else
    some S0
set_option maxRecDepth 20000 in
set_option maxHeartbeats 4000000 in
theorem wX4_passOnly (G : qv_GT) (S0 : qv_St) (x1 : Int32) : ∀ r, fX4_passOnly S0 x1 = some r → Cn G Lk yX4_passOnly cX4_passOnly 2 none 3 [.ref (G.2.2.1 7), .int x1] S0 (qe_u r) := by
  refine cn_of (own := RX4) (emb := qe_u) (lv := [(0, .ref (G.2.2.1 7)), (1, .int x1)]) rfl rfl (Nat.le_of_ble_eq_true rfl) rfl (fun X => ?_)
  unfold fX4_passOnly
  refine qr_aload_n (n := 1) 0 (dkX4_passOnly (i := 0) rfl) rfl rfl ?_
  refine qr_geti (n := 4) 7 8 (dkX4_passOnly (i := 1) rfl) rfl lkO_7 rfl gnX4 (Nat.le_of_ble_eq_true rfl) kfX4_23 rfl ?_
  refine qr_if_eq (t := 8) (n := 7) (dkX4_passOnly (i := 2) rfl) (by decide) rfl ?_ ?_
  · refine qr_aload_n (n := 9) 0 (dkX4_passOnly (i := 4) rfl) rfl rfl ?_
    refine qr_geta (n := 12) 7 0 3 (dkX4_passOnly (i := 5) rfl) rfl lkO_7 rfl gnX4 (Nat.le_of_ble_eq_true rfl) kfX4_19 rfl ?_
    refine qr_aload_n (n := 13) 0 (dkX4_passOnly (i := 6) rfl) rfl rfl ?_
    refine qr_geti (n := 16) 7 6 (dkX4_passOnly (i := 7) rfl) rfl lkO_7 rfl gnX4 (Nat.le_of_ble_eq_true rfl) kfX4_26 rfl ?_
    refine qr_cvi (n := 19) 3 [.int (S0.1 7 6)] (dkX4_passOnly (i := 8) rfl) rfl kvX4_40 rfl rfl (Nat.le_of_ble_eq_true rfl) rfl rfl lkO_3 rfl (wX9_kindAt G S0 (S0.1 7 6)) (fun r_1 => ?_)
    refine qr_iload_n (n := 20) 1 (dkX4_passOnly (i := 9) rfl) rfl rfl ?_
    refine qr_icmp_ne (t := 30) (n := 23) (dkX4_passOnly (i := 10) rfl) (by decide) rfl ?_ ?_
    · refine qr_aload_n (n := 31) 0 (dkX4_passOnly (i := 14) rfl) rfl rfl ?_
      refine qr_iconst (n := 32) 1 (dkX4_passOnly (i := 15) rfl) rfl (by decide) ?_
      refine qr_aload_n (n := 33) 0 (dkX4_passOnly (i := 16) rfl) rfl rfl ?_
      refine qr_geti (n := 36) 7 6 (dkX4_passOnly (i := 17) rfl) rfl lkO_7 rfl gnX4 (Nat.le_of_ble_eq_true rfl) kfX4_26 rfl ?_
      refine qr_cvu (n := 39) 7 [.int 1, .int (S0.1 7 6)] (dkX4_passOnly (i := 18) rfl) rfl kvX4_56 rfl rfl (Nat.le_of_ble_eq_true rfl) rfl rfl lkO_7 rfl (wX4_refuse G S0 1 (S0.1 7 6)) (fun S_1 => ?_)
      exact qr_vret (dkX4_passOnly (i := 19) rfl) rfl rfl
    · refine qr_aload_n (n := 24) 0 (dkX4_passOnly (i := 11) rfl) rfl rfl ?_
      refine qr_cvu (n := 27) 7 [] (dkX4_passOnly (i := 12) rfl) rfl kvX4_60 rfl rfl (Nat.le_of_ble_eq_true rfl) rfl rfl lkO_7 rfl (wX4_pass G S0) (fun S_2 => ?_)
      refine qr_goto (n := 39) (dkX4_passOnly (i := 13) rfl) (by decide) ?_
      exact qr_vret (dkX4_passOnly (i := 19) rfl) rfl rfl
  · exact qr_vret (dkX4_passOnly (i := 3) rfl) rfl rfl
def tbX4_passNamed : List (Nat × Instr × Nat) := [(0, .aload_n 0, 1), (1, .invokevirtual 60, 3), (4, .aload_n 0, 1), (5, .bipush 22, 2), (7, .invokevirtual 74, 3), (10, .iconst 0, 1), (11, .istore_n 2, 1), (12, .iload_n 2, 1), (13, .iload_n 1, 1), (14, .if_icmp .ge 15, 3), (17, .aload_n 0, 1), (18, .bipush 23, 2), (20, .invokevirtual 74, 3), (23, .iinc 2 1, 3), (26, .goto (-14), 3), (29, .aload_n 0, 1), (30, .bipush 59, 2), (32, .invokevirtual 74, 3), (35, .return_, 1)]
set_option maxRecDepth 20000 in
theorem daX4_passNamed : ∀ x ∈ tbX4_passNamed, decode cX4_passNamed x.1 = .ok x.2 := by decide +kernel
theorem dkX4_passNamed {i pc n : Nat} {ins : Instr} (h : tbX4_passNamed[i]? = some (pc, ins, n)) : decode cX4_passNamed pc = .ok (ins, n) := daX4_passNamed (pc, ins, n) (List.mem_of_getElem? h)
def fX4_passNamed (S0 : qv_St) (x1 : Int32) : Option qv_St :=
  (fX4_pass S0).bind fun S_1 =>
  (fX4_passOnly S_1 22).bind fun S_2 =>
  qv_j (fun (S_3 : qv_St) =>
    (fX4_passOnly S_3 59).bind fun S_4 =>
    some S_4) fun K_1 =>
  qv_lp2 qv_N (fun self_1 (S_5 : qv_St) (x2_1 : Int32) =>
    if x1 ≤ x2_1 then
      K_1 S_5
    else
      (fX4_passOnly S_5 23).bind fun S_6 =>
      self_1 S_6 (x2_1 + 1)) S_2 0
set_option maxRecDepth 20000 in
set_option maxHeartbeats 4000000 in
theorem wX4_passNamed (G : qv_GT) (S0 : qv_St) (x1 : Int32) : ∀ r, fX4_passNamed S0 x1 = some r → Cn G Lk yX4_passNamed cX4_passNamed 3 none 4 [.ref (G.2.2.1 7), .int x1] S0 (qe_u r) := by
  refine cn_of (own := RX4) (emb := qe_u) (lv := [(0, .ref (G.2.2.1 7)), (1, .int x1)]) rfl rfl (Nat.le_of_ble_eq_true rfl) rfl (fun X => ?_)
  unfold fX4_passNamed
  refine qr_aload_n (n := 1) 0 (dkX4_passNamed (i := 0) rfl) rfl rfl ?_
  refine qr_cvu (n := 4) 7 [] (dkX4_passNamed (i := 1) rfl) rfl kvX4_60 rfl rfl (Nat.le_of_ble_eq_true rfl) rfl rfl lkO_7 rfl (wX4_pass G S0) (fun S_1 => ?_)
  refine qr_aload_n (n := 5) 0 (dkX4_passNamed (i := 2) rfl) rfl rfl ?_
  refine qr_bipush (n := 7) 22 (dkX4_passNamed (i := 3) rfl) rfl (by decide) ?_
  refine qr_cvu (n := 10) 7 [.int 22] (dkX4_passNamed (i := 4) rfl) rfl kvX4_74 rfl rfl (Nat.le_of_ble_eq_true rfl) rfl rfl lkO_7 rfl (wX4_passOnly G S_1 22) (fun S_2 => ?_)
  refine qr_iconst (n := 11) 0 (dkX4_passNamed (i := 5) rfl) rfl (by decide) ?_
  refine qr_istore_n (n := 12) (lv2 := [(0, .ref (G.2.2.1 7)), (1, .int x1), (2, .int 0)]) [1, 2, 0] (dkX4_passNamed (i := 6) rfl) rfl rfl (by decide) rfl ?_
  refine qr_j (fun K_1 : qv_St → Option qv_St => ∀ (S_3 : qv_St), VV G Lk X RX4 cX4_passNamed 3 none 4 qe_u 29 [(0, .ref (G.2.2.1 7))] [] S_3 (K_1 S_3)) (fun S_3 => ?_) (fun K_1 hK_1 => ?_)
  · refine qr_aload_n (n := 30) 0 (dkX4_passNamed (i := 15) rfl) rfl rfl ?_
    refine qr_bipush (n := 32) 59 (dkX4_passNamed (i := 16) rfl) rfl (by decide) ?_
    refine qr_cvu (n := 35) 7 [.int 59] (dkX4_passNamed (i := 17) rfl) rfl kvX4_74 rfl rfl (Nat.le_of_ble_eq_true rfl) rfl rfl lkO_7 rfl (wX4_passOnly G S_3 59) (fun S_4 => ?_)
    exact qr_vret (dkX4_passNamed (i := 18) rfl) rfl rfl
  · refine qr_lp2 (fun (S_5 : qv_St) (x2_1 : Int32) => [(0, .ref (G.2.2.1 7)), (1, .int x1), (2, .int x2_1)]) (fun (S_5 : qv_St) (x2_1 : Int32) => S_5) (fun self_1 hself_1 S_5 x2_1 => ?_) qv_N S_2 0
    refine qr_iload_n (n := 13) 2 (dkX4_passNamed (i := 7) rfl) rfl rfl ?_
    refine qr_iload_n (n := 14) 1 (dkX4_passNamed (i := 8) rfl) rfl rfl ?_
    refine qr_icmp_ge (t := 29) (n := 17) (dkX4_passNamed (i := 9) rfl) (by decide) rfl ?_ ?_
    · refine qr_sub [0] rfl ?_
      exact hK_1 S_5
    · refine qr_aload_n (n := 18) 0 (dkX4_passNamed (i := 10) rfl) rfl rfl ?_
      refine qr_bipush (n := 20) 23 (dkX4_passNamed (i := 11) rfl) rfl (by decide) ?_
      refine qr_cvu (n := 23) 7 [.int 23] (dkX4_passNamed (i := 12) rfl) rfl kvX4_74 rfl rfl (Nat.le_of_ble_eq_true rfl) rfl rfl lkO_7 rfl (wX4_passOnly G S_5 23) (fun S_6 => ?_)
      refine qr_iinc (n := 26) (v := 1) (lv2 := [(0, .ref (G.2.2.1 7)), (1, .int x1), (2, .int (x2_1 + 1))]) 2 [1, 2, 0] (dkX4_passNamed (i := 13) rfl) rfl rfl (by decide) (by decide) rfl ?_
      refine qr_goto (n := 12) (dkX4_passNamed (i := 14) rfl) (by decide) ?_
      exact hself_1 S_6 (x2_1 + 1)
def tbX4_isVar : List (Nat × Instr × Nat) := [(0, .iload_n 0, 1), (1, .bipush 13, 2), (3, .if_icmp .lt 13, 3), (6, .iload_n 0, 1), (7, .bipush 21, 2), (9, .if_icmp .gt 7, 3), (12, .iconst 1, 1), (13, .goto 4, 3), (16, .iconst 0, 1), (17, .ireturn, 1)]
set_option maxRecDepth 20000 in
theorem daX4_isVar : ∀ x ∈ tbX4_isVar, decode cX4_isVar x.1 = .ok x.2 := by decide +kernel
theorem dkX4_isVar {i pc n : Nat} {ins : Instr} (h : tbX4_isVar[i]? = some (pc, ins, n)) : decode cX4_isVar pc = .ok (ins, n) := daX4_isVar (pc, ins, n) (List.mem_of_getElem? h)
def fX4_isVar (x0 : Int32) : Option Int32 :=
  qv_j (
    some 0) fun K_1 =>
  if x0 < 13 then
    K_1
  else
    if 21 < x0 then
      K_1
    else
      some 1
set_option maxRecDepth 20000 in
set_option maxHeartbeats 4000000 in
theorem wX4_isVar (G : qv_GT) (S0 : qv_St) (x0 : Int32) : ∀ r, fX4_isVar x0 = some r → Cn G Lk yX4_isVar cX4_isVar 1 (some .boolean) 1 [.int x0] S0 ((qe_i S0) r) := by
  refine cn_of (own := RX4) (emb := (qe_i S0)) (lv := [(0, .int x0)]) rfl rfl (Nat.le_of_ble_eq_true rfl) rfl (fun X => ?_)
  unfold fX4_isVar
  refine qr_iload_n (n := 1) 0 (dkX4_isVar (i := 0) rfl) rfl rfl ?_
  refine qr_bipush (n := 3) 13 (dkX4_isVar (i := 1) rfl) rfl (by decide) ?_
  refine qr_j (fun K_1 : Option Int32 => VV G Lk X RX4 cX4_isVar 1 (some .boolean) 1 (qe_i S0) 16 [] [] S0 (K_1)) (?_) (fun K_1 hK_1 => ?_)
  · refine qr_iconst (n := 17) 0 (dkX4_isVar (i := 8) rfl) rfl (by decide) ?_
    exact qr_zretc (dkX4_isVar (i := 9) rfl) rfl rfl rfl
  · refine qr_icmp_lt (t := 16) (n := 6) (dkX4_isVar (i := 2) rfl) (by decide) rfl ?_ ?_
    · refine qr_sub [] rfl ?_
      exact hK_1
    · refine qr_iload_n (n := 7) 0 (dkX4_isVar (i := 3) rfl) rfl rfl ?_
      refine qr_bipush (n := 9) 21 (dkX4_isVar (i := 4) rfl) rfl (by decide) ?_
      refine qr_icmp_gt (t := 16) (n := 12) (dkX4_isVar (i := 5) rfl) (by decide) rfl ?_ ?_
      · refine qr_sub [] rfl ?_
        exact hK_1
      · refine qr_iconst (n := 13) 1 (dkX4_isVar (i := 6) rfl) rfl (by decide) ?_
        refine qr_goto (n := 17) (dkX4_isVar (i := 7) rfl) (by decide) ?_
        exact qr_zretc (dkX4_isVar (i := 9) rfl) rfl rfl rfl
def tbX4_isOperator : List (Nat × Instr × Nat) := [(0, .iload_n 0, 1), (1, .bipush 43, 2), (3, .if_icmp .eq 21, 3), (6, .iload_n 0, 1), (7, .bipush 45, 2), (9, .if_icmp .eq 15, 3), (12, .iload_n 0, 1), (13, .bipush 42, 2), (15, .if_icmp .eq 9, 3), (18, .iload_n 0, 1), (19, .bipush 47, 2), (21, .if_icmp .ne 7, 3), (24, .iconst 1, 1), (25, .goto 4, 3), (28, .iconst 0, 1), (29, .ireturn, 1)]
set_option maxRecDepth 20000 in
theorem daX4_isOperator : ∀ x ∈ tbX4_isOperator, decode cX4_isOperator x.1 = .ok x.2 := by decide +kernel
theorem dkX4_isOperator {i pc n : Nat} {ins : Instr} (h : tbX4_isOperator[i]? = some (pc, ins, n)) : decode cX4_isOperator pc = .ok (ins, n) := daX4_isOperator (pc, ins, n) (List.mem_of_getElem? h)
def fX4_isOperator (x0 : Int32) : Option Int32 :=
  qv_j (
    some 1) fun K_1 =>
  if x0 = 43 then
    K_1
  else
    if x0 = 45 then
      K_1
    else
      if x0 = 42 then
        K_1
      else
        if x0 = 47 then
          K_1
        else
          some 0
set_option maxRecDepth 20000 in
set_option maxHeartbeats 4000000 in
theorem wX4_isOperator (G : qv_GT) (S0 : qv_St) (x0 : Int32) : ∀ r, fX4_isOperator x0 = some r → Cn G Lk yX4_isOperator cX4_isOperator 1 (some .boolean) 1 [.int x0] S0 ((qe_i S0) r) := by
  refine cn_of (own := RX4) (emb := (qe_i S0)) (lv := [(0, .int x0)]) rfl rfl (Nat.le_of_ble_eq_true rfl) rfl (fun X => ?_)
  unfold fX4_isOperator
  refine qr_iload_n (n := 1) 0 (dkX4_isOperator (i := 0) rfl) rfl rfl ?_
  refine qr_bipush (n := 3) 43 (dkX4_isOperator (i := 1) rfl) rfl (by decide) ?_
  refine qr_j (fun K_1 : Option Int32 => VV G Lk X RX4 cX4_isOperator 1 (some .boolean) 1 (qe_i S0) 24 [] [] S0 (K_1)) (?_) (fun K_1 hK_1 => ?_)
  · refine qr_iconst (n := 25) 1 (dkX4_isOperator (i := 12) rfl) rfl (by decide) ?_
    refine qr_goto (n := 29) (dkX4_isOperator (i := 13) rfl) (by decide) ?_
    exact qr_zretc (dkX4_isOperator (i := 15) rfl) rfl rfl rfl
  · refine qr_icmp_eq (t := 24) (n := 6) (dkX4_isOperator (i := 2) rfl) (by decide) rfl ?_ ?_
    · refine qr_sub [] rfl ?_
      exact hK_1
    · refine qr_iload_n (n := 7) 0 (dkX4_isOperator (i := 3) rfl) rfl rfl ?_
      refine qr_bipush (n := 9) 45 (dkX4_isOperator (i := 4) rfl) rfl (by decide) ?_
      refine qr_icmp_eq (t := 24) (n := 12) (dkX4_isOperator (i := 5) rfl) (by decide) rfl ?_ ?_
      · refine qr_sub [] rfl ?_
        exact hK_1
      · refine qr_iload_n (n := 13) 0 (dkX4_isOperator (i := 6) rfl) rfl rfl ?_
        refine qr_bipush (n := 15) 42 (dkX4_isOperator (i := 7) rfl) rfl (by decide) ?_
        refine qr_icmp_eq (t := 24) (n := 18) (dkX4_isOperator (i := 8) rfl) (by decide) rfl ?_ ?_
        · refine qr_sub [] rfl ?_
          exact hK_1
        · refine qr_iload_n (n := 19) 0 (dkX4_isOperator (i := 9) rfl) rfl rfl ?_
          refine qr_bipush (n := 21) 47 (dkX4_isOperator (i := 10) rfl) rfl (by decide) ?_
          refine qr_icmp_ne (t := 28) (n := 24) (dkX4_isOperator (i := 11) rfl) (by decide) rfl ?_ ?_
          · refine qr_iconst (n := 29) 0 (dkX4_isOperator (i := 14) rfl) rfl (by decide) ?_
            exact qr_zretc (dkX4_isOperator (i := 15) rfl) rfl rfl rfl
          · refine qr_sub [] rfl ?_
            exact hK_1
def tbX4_passSum : List (Nat × Instr × Nat) := [(0, .iconst 0, 1), (1, .istore_n 2, 1), (2, .iconst 1, 1), (3, .istore_n 3, 1), (4, .iconst 0, 1), (5, .istore 4, 2), (7, .iconst 0, 1), (8, .istore 5, 2), (10, .iload 5, 2), (12, .sipush 400, 3), (15, .if_icmp .gt 161, 3), (18, .aload_n 0, 1), (19, .getfield 23, 3), (22, .ifCond .ne 154, 3), (25, .iload 4, 2), (27, .ifCond .ne 149, 3), (30, .aload_n 0, 1), (31, .getfield 19, 3), (34, .aload_n 0, 1), (35, .getfield 26, 3), (38, .invokevirtual 40, 3), (41, .istore 6, 2), (43, .iload_n 3, 1), (44, .ifCond .eq 31, 3), (47, .iload 6, 2), (49, .bipush 40, 2), (51, .if_icmp .ne 24, 3), (54, .iinc 2 1, 3), (57, .iload_n 2, 1), (58, .bipush 6, 2), (60, .if_icmp .le 106, 3), (63, .aload_n 0, 1), (64, .iconst 2, 1), (65, .aload_n 0, 1), (66, .getfield 26, 3), (69, .invokevirtual 56, 3), (72, .goto 94, 3), (75, .iload_n 3, 1), (76, .ifCond .eq 23, 3), (79, .iload 6, 2), (81, .bipush 23, 2), (83, .if_icmp .eq 11, 3), (86, .iload 6, 2), (88, .invokestatic 80, 3), (91, .ifCond .eq 8, 3), (94, .iconst 0, 1), (95, .istore_n 3, 1), (96, .goto 70, 3), (99, .iload_n 3, 1), (100, .ifCond .ne 16, 3), (103, .iload 6, 2), (105, .invokestatic 84, 3), (108, .ifCond .eq 8, 3), (111, .iconst 1, 1), (112, .istore_n 3, 1), (113, .goto 53, 3), (116, .iload_n 3, 1), (117, .ifCond .ne 20, 3), (120, .iload_n 2, 1), (121, .ifCond .le 16, 3), (124, .iload 6, 2), (126, .bipush 41, 2), (128, .if_icmp .ne 9, 3), (131, .iinc 2 (-1), 3), (134, .goto 32, 3), (137, .iload_n 3, 1), (138, .ifCond .ne 19, 3), (141, .iload_n 2, 1), (142, .ifCond .ne 15, 3), (145, .iload 6, 2), (147, .iload_n 1, 1), (148, .if_icmp .ne 9, 3), (151, .iconst 1, 1), (152, .istore 4, 2), (154, .goto 12, 3), (157, .aload_n 0, 1), (158, .iconst 1, 1), (159, .aload_n 0, 1), (160, .getfield 26, 3), (163, .invokevirtual 56, 3), (166, .aload_n 0, 1), (167, .invokevirtual 60, 3), (170, .iinc 5 1, 3), (173, .goto (-163), 3), (176, .return_, 1)]
set_option maxRecDepth 20000 in
theorem daX4_passSum : ∀ x ∈ tbX4_passSum, decode cX4_passSum x.1 = .ok x.2 := by decide +kernel
theorem dkX4_passSum {i pc n : Nat} {ins : Instr} (h : tbX4_passSum[i]? = some (pc, ins, n)) : decode cX4_passSum pc = .ok (ins, n) := daX4_passSum (pc, ins, n) (List.mem_of_getElem? h)
def fX4_passSum (S0 : qv_St) (x1 : Int32) : Option qv_St :=
  qv_lp5 qv_N (fun self_1 (S_1 : qv_St) (x2_1 : Int32) (x3_1 : Int32) (x4_1 : Int32) (x5_1 : Int32) =>
    if 400 < x5_1 then
      some S_1
    else
      if (S_1.1 7 8) = 0 then
        if x4_1 = 0 then
          (fX9_kindAt S_1 (S_1.1 7 6)).bind fun r_1 =>
          qv_j (fun (S_2 : qv_St) (x2_2 : Int32) (x3_2 : Int32) (x4_2 : Int32) =>
            (fX4_pass S_2).bind fun S_3 =>
            self_1 S_3 x2_2 x3_2 x4_2 (x5_1 + 1)) fun K_1 =>
          qv_j (
            qv_j (
              qv_j (
                qv_j (
                  qv_j (
                    (fX4_refuse S_1 1 (S_1.1 7 6)).bind fun S_4 =>
                    K_1 S_4 x2_1 x3_1 x4_1) fun K_6 =>
                  if x3_1 = 0 then
                    if x2_1 = 0 then
                      if r_1 = x1 then
                        K_1 S_1 x2_1 x3_1 1
                      else
                        K_6
                    else
                      K_6
                  else
                    K_6) fun K_5 =>
                if x3_1 = 0 then
                  if x2_1 ≤ 0 then
                    K_5
                  else
                    if r_1 = 41 then
                      K_1 S_1 (x2_1 + (-1)) x3_1 x4_1
                    else
                      K_5
                else
                  K_5) fun K_4 =>
              if x3_1 = 0 then
                (fX4_isOperator r_1).bind fun r_2 =>
                if r_2 = 0 then
                  K_4
                else
                  K_1 S_1 x2_1 1 x4_1
              else
                K_4) fun K_3 =>
            if x3_1 = 0 then
              K_3
            else
              qv_j (
                K_1 S_1 x2_1 0 x4_1) fun K_7 =>
              if r_1 = 23 then
                K_7
              else
                (fX4_isVar r_1).bind fun r_3 =>
                if r_3 = 0 then
                  K_3
                else
                  K_7) fun K_2 =>
          if x3_1 = 0 then
            K_2
          else
            if r_1 = 40 then
              if (x2_1 + 1) ≤ 6 then
                K_1 S_1 (x2_1 + 1) x3_1 x4_1
              else
                (fX4_refuse S_1 2 (S_1.1 7 6)).bind fun S_5 =>
                K_1 S_5 (x2_1 + 1) x3_1 x4_1
            else
              K_2
        else
          some S_1
      else
        some S_1) S0 0 1 0 0
set_option maxRecDepth 20000 in
set_option maxHeartbeats 4000000 in
theorem wX4_passSum (G : qv_GT) (S0 : qv_St) (x1 : Int32) : ∀ r, fX4_passSum S0 x1 = some r → Cn G Lk yX4_passSum cX4_passSum 7 none 3 [.ref (G.2.2.1 7), .int x1] S0 (qe_u r) := by
  refine cn_of (own := RX4) (emb := qe_u) (lv := [(0, .ref (G.2.2.1 7)), (1, .int x1)]) rfl rfl (Nat.le_of_ble_eq_true rfl) rfl (fun X => ?_)
  unfold fX4_passSum
  refine qr_iconst (n := 1) 0 (dkX4_passSum (i := 0) rfl) rfl (by decide) ?_
  refine qr_istore_n (n := 2) (lv2 := [(0, .ref (G.2.2.1 7)), (1, .int x1), (2, .int 0)]) [1, 2, 0] (dkX4_passSum (i := 1) rfl) rfl rfl (by decide) rfl ?_
  refine qr_iconst (n := 3) 1 (dkX4_passSum (i := 2) rfl) rfl (by decide) ?_
  refine qr_istore_n (n := 4) (lv2 := [(0, .ref (G.2.2.1 7)), (1, .int x1), (2, .int 0), (3, .int 1)]) [1, 2, 3, 0] (dkX4_passSum (i := 3) rfl) rfl rfl (by decide) rfl ?_
  refine qr_iconst (n := 5) 0 (dkX4_passSum (i := 4) rfl) rfl (by decide) ?_
  refine qr_istore (n := 7) (lv2 := [(0, .ref (G.2.2.1 7)), (1, .int x1), (2, .int 0), (3, .int 1), (4, .int 0)]) [1, 2, 3, 4, 0] (dkX4_passSum (i := 5) rfl) rfl (by decide) rfl ?_
  refine qr_iconst (n := 8) 0 (dkX4_passSum (i := 6) rfl) rfl (by decide) ?_
  refine qr_istore (n := 10) (lv2 := [(0, .ref (G.2.2.1 7)), (1, .int x1), (2, .int 0), (3, .int 1), (4, .int 0), (5, .int 0)]) [1, 2, 3, 4, 5, 0] (dkX4_passSum (i := 7) rfl) rfl (by decide) rfl ?_
  refine qr_lp5 (fun (S_1 : qv_St) (x2_1 : Int32) (x3_1 : Int32) (x4_1 : Int32) (x5_1 : Int32) => [(0, .ref (G.2.2.1 7)), (1, .int x1), (2, .int x2_1), (3, .int x3_1), (4, .int x4_1), (5, .int x5_1)]) (fun (S_1 : qv_St) (x2_1 : Int32) (x3_1 : Int32) (x4_1 : Int32) (x5_1 : Int32) => S_1) (fun self_1 hself_1 S_1 x2_1 x3_1 x4_1 x5_1 => ?_) qv_N S0 0 1 0 0
  refine qr_iload (n := 12) 5 (dkX4_passSum (i := 8) rfl) rfl rfl ?_
  refine qr_sipush (n := 15) 400 (dkX4_passSum (i := 9) rfl) rfl (by decide) ?_
  refine qr_icmp_gt (t := 176) (n := 18) (dkX4_passSum (i := 10) rfl) (by decide) rfl ?_ ?_
  · exact qr_vret (dkX4_passSum (i := 84) rfl) rfl rfl
  · refine qr_aload_n (n := 19) 0 (dkX4_passSum (i := 11) rfl) rfl rfl ?_
    refine qr_geti (n := 22) 7 8 (dkX4_passSum (i := 12) rfl) rfl lkO_7 rfl gnX4 (Nat.le_of_ble_eq_true rfl) kfX4_23 rfl ?_
    refine qr_if_ne (t := 176) (n := 25) (dkX4_passSum (i := 13) rfl) (by decide) rfl ?_ ?_
    · exact qr_vret (dkX4_passSum (i := 84) rfl) rfl rfl
    · refine qr_iload (n := 27) 4 (dkX4_passSum (i := 14) rfl) rfl rfl ?_
      refine qr_if_ne (t := 176) (n := 30) (dkX4_passSum (i := 15) rfl) (by decide) rfl ?_ ?_
      · exact qr_vret (dkX4_passSum (i := 84) rfl) rfl rfl
      · refine qr_aload_n (n := 31) 0 (dkX4_passSum (i := 16) rfl) rfl rfl ?_
        refine qr_geta (n := 34) 7 0 3 (dkX4_passSum (i := 17) rfl) rfl lkO_7 rfl gnX4 (Nat.le_of_ble_eq_true rfl) kfX4_19 rfl ?_
        refine qr_aload_n (n := 35) 0 (dkX4_passSum (i := 18) rfl) rfl rfl ?_
        refine qr_geti (n := 38) 7 6 (dkX4_passSum (i := 19) rfl) rfl lkO_7 rfl gnX4 (Nat.le_of_ble_eq_true rfl) kfX4_26 rfl ?_
        refine qr_cvi (n := 41) 3 [.int (S_1.1 7 6)] (dkX4_passSum (i := 20) rfl) rfl kvX4_40 rfl rfl (Nat.le_of_ble_eq_true rfl) rfl rfl lkO_3 rfl (wX9_kindAt G S_1 (S_1.1 7 6)) (fun r_1 => ?_)
        refine qr_istore (n := 43) (lv2 := [(0, .ref (G.2.2.1 7)), (1, .int x1), (2, .int x2_1), (3, .int x3_1), (4, .int x4_1), (5, .int x5_1), (6, .int r_1)]) [1, 2, 3, 4, 5, 6, 0] (dkX4_passSum (i := 21) rfl) rfl (by decide) rfl ?_
        refine qr_iload_n (n := 44) 3 (dkX4_passSum (i := 22) rfl) rfl rfl ?_
        refine qr_j (fun K_1 : qv_St → Int32 → Int32 → Int32 → Option qv_St => ∀ (S_2 : qv_St) (x2_2 : Int32) (x3_2 : Int32) (x4_2 : Int32), VV G Lk X RX4 cX4_passSum 7 none 3 qe_u 166 [(0, .ref (G.2.2.1 7)), (1, .int x1), (2, .int x2_2), (3, .int x3_2), (4, .int x4_2), (5, .int x5_1)] [] S_2 (K_1 S_2 x2_2 x3_2 x4_2)) (fun S_2 x2_2 x3_2 x4_2 => ?_) (fun K_1 hK_1 => ?_)
        · refine qr_aload_n (n := 167) 0 (dkX4_passSum (i := 80) rfl) rfl rfl ?_
          refine qr_cvu (n := 170) 7 [] (dkX4_passSum (i := 81) rfl) rfl kvX4_60 rfl rfl (Nat.le_of_ble_eq_true rfl) rfl rfl lkO_7 rfl (wX4_pass G S_2) (fun S_3 => ?_)
          refine qr_iinc (n := 173) (v := 1) (lv2 := [(0, .ref (G.2.2.1 7)), (1, .int x1), (2, .int x2_2), (3, .int x3_2), (4, .int x4_2), (5, .int (x5_1 + 1))]) 5 [1, 2, 3, 4, 5, 0] (dkX4_passSum (i := 82) rfl) rfl rfl (by decide) (by decide) rfl ?_
          refine qr_goto (n := 10) (dkX4_passSum (i := 83) rfl) (by decide) ?_
          exact hself_1 S_3 x2_2 x3_2 x4_2 (x5_1 + 1)
        · refine qr_j (fun K_2 : Option qv_St => VV G Lk X RX4 cX4_passSum 7 none 3 qe_u 75 [(0, .ref (G.2.2.1 7)), (1, .int x1), (2, .int x2_1), (3, .int x3_1), (4, .int x4_1), (5, .int x5_1), (6, .int r_1)] [] S_1 (K_2)) (?_) (fun K_2 hK_2 => ?_)
          · refine qr_iload_n (n := 76) 3 (dkX4_passSum (i := 37) rfl) rfl rfl ?_
            refine qr_j (fun K_3 : Option qv_St => VV G Lk X RX4 cX4_passSum 7 none 3 qe_u 99 [(0, .ref (G.2.2.1 7)), (1, .int x1), (2, .int x2_1), (3, .int x3_1), (4, .int x4_1), (5, .int x5_1), (6, .int r_1)] [] S_1 (K_3)) (?_) (fun K_3 hK_3 => ?_)
            · refine qr_iload_n (n := 100) 3 (dkX4_passSum (i := 48) rfl) rfl rfl ?_
              refine qr_j (fun K_4 : Option qv_St => VV G Lk X RX4 cX4_passSum 7 none 3 qe_u 116 [(0, .ref (G.2.2.1 7)), (1, .int x1), (2, .int x2_1), (3, .int x3_1), (4, .int x4_1), (5, .int x5_1), (6, .int r_1)] [] S_1 (K_4)) (?_) (fun K_4 hK_4 => ?_)
              · refine qr_iload_n (n := 117) 3 (dkX4_passSum (i := 56) rfl) rfl rfl ?_
                refine qr_j (fun K_5 : Option qv_St => VV G Lk X RX4 cX4_passSum 7 none 3 qe_u 137 [(0, .ref (G.2.2.1 7)), (1, .int x1), (2, .int x2_1), (3, .int x3_1), (4, .int x4_1), (5, .int x5_1), (6, .int r_1)] [] S_1 (K_5)) (?_) (fun K_5 hK_5 => ?_)
                · refine qr_iload_n (n := 138) 3 (dkX4_passSum (i := 65) rfl) rfl rfl ?_
                  refine qr_j (fun K_6 : Option qv_St => VV G Lk X RX4 cX4_passSum 7 none 3 qe_u 157 [(0, .ref (G.2.2.1 7)), (1, .int x1), (2, .int x2_1), (3, .int x3_1), (4, .int x4_1), (5, .int x5_1)] [] S_1 (K_6)) (?_) (fun K_6 hK_6 => ?_)
                  · refine qr_aload_n (n := 158) 0 (dkX4_passSum (i := 75) rfl) rfl rfl ?_
                    refine qr_iconst (n := 159) 1 (dkX4_passSum (i := 76) rfl) rfl (by decide) ?_
                    refine qr_aload_n (n := 160) 0 (dkX4_passSum (i := 77) rfl) rfl rfl ?_
                    refine qr_geti (n := 163) 7 6 (dkX4_passSum (i := 78) rfl) rfl lkO_7 rfl gnX4 (Nat.le_of_ble_eq_true rfl) kfX4_26 rfl ?_
                    refine qr_cvu (n := 166) 7 [.int 1, .int (S_1.1 7 6)] (dkX4_passSum (i := 79) rfl) rfl kvX4_56 rfl rfl (Nat.le_of_ble_eq_true rfl) rfl rfl lkO_7 rfl (wX4_refuse G S_1 1 (S_1.1 7 6)) (fun S_4 => ?_)
                    exact hK_1 S_4 x2_1 x3_1 x4_1
                  · refine qr_if_ne (t := 157) (n := 141) (dkX4_passSum (i := 66) rfl) (by decide) rfl ?_ ?_
                    · refine qr_sub [0, 1, 2, 3, 4, 5] rfl ?_
                      exact hK_6
                    · refine qr_iload_n (n := 142) 2 (dkX4_passSum (i := 67) rfl) rfl rfl ?_
                      refine qr_if_ne (t := 157) (n := 145) (dkX4_passSum (i := 68) rfl) (by decide) rfl ?_ ?_
                      · refine qr_sub [0, 1, 2, 3, 4, 5] rfl ?_
                        exact hK_6
                      · refine qr_iload (n := 147) 6 (dkX4_passSum (i := 69) rfl) rfl rfl ?_
                        refine qr_iload_n (n := 148) 1 (dkX4_passSum (i := 70) rfl) rfl rfl ?_
                        refine qr_icmp_ne (t := 157) (n := 151) (dkX4_passSum (i := 71) rfl) (by decide) rfl ?_ ?_
                        · refine qr_sub [0, 1, 2, 3, 4, 5] rfl ?_
                          exact hK_6
                        · refine qr_iconst (n := 152) 1 (dkX4_passSum (i := 72) rfl) rfl (by decide) ?_
                          refine qr_istore (n := 154) (lv2 := [(0, .ref (G.2.2.1 7)), (1, .int x1), (2, .int x2_1), (3, .int x3_1), (4, .int 1), (5, .int x5_1), (6, .int r_1)]) [1, 2, 3, 4, 0, 5, 6] (dkX4_passSum (i := 73) rfl) rfl (by decide) rfl ?_
                          refine qr_goto (n := 166) (dkX4_passSum (i := 74) rfl) (by decide) ?_
                          refine qr_sub [0, 1, 2, 3, 4, 5] rfl ?_
                          exact hK_1 S_1 x2_1 x3_1 1
                · refine qr_if_ne (t := 137) (n := 120) (dkX4_passSum (i := 57) rfl) (by decide) rfl ?_ ?_
                  · exact hK_5
                  · refine qr_iload_n (n := 121) 2 (dkX4_passSum (i := 58) rfl) rfl rfl ?_
                    refine qr_if_le (t := 137) (n := 124) (dkX4_passSum (i := 59) rfl) (by decide) rfl ?_ ?_
                    · exact hK_5
                    · refine qr_iload (n := 126) 6 (dkX4_passSum (i := 60) rfl) rfl rfl ?_
                      refine qr_bipush (n := 128) 41 (dkX4_passSum (i := 61) rfl) rfl (by decide) ?_
                      refine qr_icmp_ne (t := 137) (n := 131) (dkX4_passSum (i := 62) rfl) (by decide) rfl ?_ ?_
                      · exact hK_5
                      · refine qr_iinc (n := 134) (v := (-1)) (lv2 := [(0, .ref (G.2.2.1 7)), (1, .int x1), (2, .int (x2_1 + (-1))), (3, .int x3_1), (4, .int x4_1), (5, .int x5_1), (6, .int r_1)]) 2 [1, 2, 0, 3, 4, 5, 6] (dkX4_passSum (i := 63) rfl) rfl rfl (by decide) (by decide) rfl ?_
                        refine qr_goto (n := 166) (dkX4_passSum (i := 64) rfl) (by decide) ?_
                        refine qr_sub [0, 1, 2, 3, 4, 5] rfl ?_
                        exact hK_1 S_1 (x2_1 + (-1)) x3_1 x4_1
              · refine qr_if_ne (t := 116) (n := 103) (dkX4_passSum (i := 49) rfl) (by decide) rfl ?_ ?_
                · exact hK_4
                · refine qr_iload (n := 105) 6 (dkX4_passSum (i := 50) rfl) rfl rfl ?_
                  refine qr_csi (n := 108) [.int r_1] (dkX4_passSum (i := 51) rfl) rfl kvX4_84 rfl rfl (Nat.le_of_ble_eq_true rfl) rfl rfl (wX4_isOperator G S_1 r_1) (fun r_2 => ?_)
                  refine qr_if_eq (t := 116) (n := 111) (dkX4_passSum (i := 52) rfl) (by decide) rfl ?_ ?_
                  · exact hK_4
                  · refine qr_iconst (n := 112) 1 (dkX4_passSum (i := 53) rfl) rfl (by decide) ?_
                    refine qr_istore_n (n := 113) (lv2 := [(0, .ref (G.2.2.1 7)), (1, .int x1), (2, .int x2_1), (3, .int 1), (4, .int x4_1), (5, .int x5_1), (6, .int r_1)]) [1, 2, 3, 0, 4, 5, 6] (dkX4_passSum (i := 54) rfl) rfl rfl (by decide) rfl ?_
                    refine qr_goto (n := 166) (dkX4_passSum (i := 55) rfl) (by decide) ?_
                    refine qr_sub [0, 1, 2, 3, 4, 5] rfl ?_
                    exact hK_1 S_1 x2_1 1 x4_1
            · refine qr_if_eq (t := 99) (n := 79) (dkX4_passSum (i := 38) rfl) (by decide) rfl ?_ ?_
              · exact hK_3
              · refine qr_iload (n := 81) 6 (dkX4_passSum (i := 39) rfl) rfl rfl ?_
                refine qr_bipush (n := 83) 23 (dkX4_passSum (i := 40) rfl) rfl (by decide) ?_
                refine qr_j (fun K_7 : Option qv_St => VV G Lk X RX4 cX4_passSum 7 none 3 qe_u 94 [(0, .ref (G.2.2.1 7)), (1, .int x1), (2, .int x2_1), (4, .int x4_1), (5, .int x5_1)] [] S_1 (K_7)) (?_) (fun K_7 hK_7 => ?_)
                · refine qr_iconst (n := 95) 0 (dkX4_passSum (i := 45) rfl) rfl (by decide) ?_
                  refine qr_istore_n (n := 96) (lv2 := [(0, .ref (G.2.2.1 7)), (1, .int x1), (2, .int x2_1), (3, .int 0), (4, .int x4_1), (5, .int x5_1)]) [1, 2, 3, 0, 4, 5] (dkX4_passSum (i := 46) rfl) rfl rfl (by decide) rfl ?_
                  refine qr_goto (n := 166) (dkX4_passSum (i := 47) rfl) (by decide) ?_
                  exact hK_1 S_1 x2_1 0 x4_1
                · refine qr_icmp_eq (t := 94) (n := 86) (dkX4_passSum (i := 41) rfl) (by decide) rfl ?_ ?_
                  · refine qr_sub [0, 1, 2, 4, 5] rfl ?_
                    exact hK_7
                  · refine qr_iload (n := 88) 6 (dkX4_passSum (i := 42) rfl) rfl rfl ?_
                    refine qr_csi (n := 91) [.int r_1] (dkX4_passSum (i := 43) rfl) rfl kvX4_80 rfl rfl (Nat.le_of_ble_eq_true rfl) rfl rfl (wX4_isVar G S_1 r_1) (fun r_3 => ?_)
                    refine qr_if_eq (t := 99) (n := 94) (dkX4_passSum (i := 44) rfl) (by decide) rfl ?_ ?_
                    · exact hK_3
                    · refine qr_sub [0, 1, 2, 4, 5] rfl ?_
                      exact hK_7
          · refine qr_if_eq (t := 75) (n := 47) (dkX4_passSum (i := 23) rfl) (by decide) rfl ?_ ?_
            · exact hK_2
            · refine qr_iload (n := 49) 6 (dkX4_passSum (i := 24) rfl) rfl rfl ?_
              refine qr_bipush (n := 51) 40 (dkX4_passSum (i := 25) rfl) rfl (by decide) ?_
              refine qr_icmp_ne (t := 75) (n := 54) (dkX4_passSum (i := 26) rfl) (by decide) rfl ?_ ?_
              · exact hK_2
              · refine qr_iinc (n := 57) (v := 1) (lv2 := [(0, .ref (G.2.2.1 7)), (1, .int x1), (2, .int (x2_1 + 1)), (3, .int x3_1), (4, .int x4_1), (5, .int x5_1), (6, .int r_1)]) 2 [1, 2, 0, 3, 4, 5, 6] (dkX4_passSum (i := 27) rfl) rfl rfl (by decide) (by decide) rfl ?_
                refine qr_iload_n (n := 58) 2 (dkX4_passSum (i := 28) rfl) rfl rfl ?_
                refine qr_bipush (n := 60) 6 (dkX4_passSum (i := 29) rfl) rfl (by decide) ?_
                refine qr_icmp_le (t := 166) (n := 63) (dkX4_passSum (i := 30) rfl) (by decide) rfl ?_ ?_
                · refine qr_sub [0, 1, 2, 3, 4, 5] rfl ?_
                  exact hK_1 S_1 (x2_1 + 1) x3_1 x4_1
                · refine qr_aload_n (n := 64) 0 (dkX4_passSum (i := 31) rfl) rfl rfl ?_
                  refine qr_iconst (n := 65) 2 (dkX4_passSum (i := 32) rfl) rfl (by decide) ?_
                  refine qr_aload_n (n := 66) 0 (dkX4_passSum (i := 33) rfl) rfl rfl ?_
                  refine qr_geti (n := 69) 7 6 (dkX4_passSum (i := 34) rfl) rfl lkO_7 rfl gnX4 (Nat.le_of_ble_eq_true rfl) kfX4_26 rfl ?_
                  refine qr_cvu (n := 72) 7 [.int 2, .int (S_1.1 7 6)] (dkX4_passSum (i := 35) rfl) rfl kvX4_56 rfl rfl (Nat.le_of_ble_eq_true rfl) rfl rfl lkO_7 rfl (wX4_refuse G S_1 2 (S_1.1 7 6)) (fun S_5 => ?_)
                  refine qr_goto (n := 166) (dkX4_passSum (i := 36) rfl) (by decide) ?_
                  refine qr_sub [0, 1, 2, 3, 4, 5] rfl ?_
                  exact hK_1 S_5 (x2_1 + 1) x3_1 x4_1
def tbX4_passLaw : List (Nat × Instr × Nat) := [(0, .aload_n 0, 1), (1, .bipush 61, 2), (3, .invokevirtual 74, 3), (6, .iconst 0, 1), (7, .istore_n 1, 1), (8, .iload_n 1, 1), (9, .iconst 4, 1), (10, .if_icmp .gt 70, 3), (13, .aload_n 0, 1), (14, .getfield 23, 3), (17, .ifCond .ne 63, 3), (20, .aload_n 0, 1), (21, .getfield 19, 3), (24, .aload_n 0, 1), (25, .getfield 26, 3), (28, .invokevirtual 40, 3), (31, .bipush 10, 2), (33, .if_icmp .ne 47, 3), (36, .iload_n 1, 1), (37, .iconst 4, 1), (38, .if_icmp .ne 12, 3), (41, .aload_n 0, 1), (42, .iconst 2, 1), (43, .aload_n 0, 1), (44, .getfield 26, 3), (47, .invokevirtual 56, 3), (50, .aload_n 0, 1), (51, .bipush 10, 2), (53, .invokevirtual 74, 3), (56, .aload_n 0, 1), (57, .bipush 60, 2), (59, .invokevirtual 77, 3), (62, .aload_n 0, 1), (63, .bipush 11, 2), (65, .invokevirtual 77, 3), (68, .aload_n 0, 1), (69, .bipush 12, 2), (71, .invokevirtual 77, 3), (74, .iinc 1 1, 3), (77, .goto (-69), 3), (80, .aload_n 0, 1), (81, .bipush 59, 2), (83, .invokevirtual 77, 3), (86, .return_, 1)]
set_option maxRecDepth 20000 in
theorem daX4_passLaw : ∀ x ∈ tbX4_passLaw, decode cX4_passLaw x.1 = .ok x.2 := by decide +kernel
theorem dkX4_passLaw {i pc n : Nat} {ins : Instr} (h : tbX4_passLaw[i]? = some (pc, ins, n)) : decode cX4_passLaw pc = .ok (ins, n) := daX4_passLaw (pc, ins, n) (List.mem_of_getElem? h)
def fX4_passLaw (S0 : qv_St) : Option qv_St :=
  (fX4_passOnly S0 61).bind fun S_1 =>
  qv_j (fun (S_2 : qv_St) =>
    (fX4_passSum S_2 59).bind fun S_3 =>
    some S_3) fun K_1 =>
  qv_lp2 qv_N (fun self_1 (S_4 : qv_St) (x1_1 : Int32) =>
    if 4 < x1_1 then
      K_1 S_4
    else
      if (S_4.1 7 8) = 0 then
        (fX9_kindAt S_4 (S_4.1 7 6)).bind fun r_1 =>
        if r_1 = 10 then
          qv_j (fun (S_5 : qv_St) =>
            (fX4_passOnly S_5 10).bind fun S_6 =>
            (fX4_passSum S_6 60).bind fun S_7 =>
            (fX4_passSum S_7 11).bind fun S_8 =>
            (fX4_passSum S_8 12).bind fun S_9 =>
            self_1 S_9 (x1_1 + 1)) fun K_2 =>
          if x1_1 = 4 then
            (fX4_refuse S_4 2 (S_4.1 7 6)).bind fun S_10 =>
            K_2 S_10
          else
            K_2 S_4
        else
          K_1 S_4
      else
        K_1 S_4) S_1 0
set_option maxRecDepth 20000 in
set_option maxHeartbeats 4000000 in
theorem wX4_passLaw (G : qv_GT) (S0 : qv_St) : ∀ r, fX4_passLaw S0 = some r → Cn G Lk yX4_passLaw cX4_passLaw 2 none 4 [.ref (G.2.2.1 7)] S0 (qe_u r) := by
  refine cn_of (own := RX4) (emb := qe_u) (lv := [(0, .ref (G.2.2.1 7))]) rfl rfl (Nat.le_of_ble_eq_true rfl) rfl (fun X => ?_)
  unfold fX4_passLaw
  refine qr_aload_n (n := 1) 0 (dkX4_passLaw (i := 0) rfl) rfl rfl ?_
  refine qr_bipush (n := 3) 61 (dkX4_passLaw (i := 1) rfl) rfl (by decide) ?_
  refine qr_cvu (n := 6) 7 [.int 61] (dkX4_passLaw (i := 2) rfl) rfl kvX4_74 rfl rfl (Nat.le_of_ble_eq_true rfl) rfl rfl lkO_7 rfl (wX4_passOnly G S0 61) (fun S_1 => ?_)
  refine qr_iconst (n := 7) 0 (dkX4_passLaw (i := 3) rfl) rfl (by decide) ?_
  refine qr_istore_n (n := 8) (lv2 := [(0, .ref (G.2.2.1 7)), (1, .int 0)]) [1, 0] (dkX4_passLaw (i := 4) rfl) rfl rfl (by decide) rfl ?_
  refine qr_j (fun K_1 : qv_St → Option qv_St => ∀ (S_2 : qv_St), VV G Lk X RX4 cX4_passLaw 2 none 4 qe_u 80 [(0, .ref (G.2.2.1 7))] [] S_2 (K_1 S_2)) (fun S_2 => ?_) (fun K_1 hK_1 => ?_)
  · refine qr_aload_n (n := 81) 0 (dkX4_passLaw (i := 40) rfl) rfl rfl ?_
    refine qr_bipush (n := 83) 59 (dkX4_passLaw (i := 41) rfl) rfl (by decide) ?_
    refine qr_cvu (n := 86) 7 [.int 59] (dkX4_passLaw (i := 42) rfl) rfl kvX4_77 rfl rfl (Nat.le_of_ble_eq_true rfl) rfl rfl lkO_7 rfl (wX4_passSum G S_2 59) (fun S_3 => ?_)
    exact qr_vret (dkX4_passLaw (i := 43) rfl) rfl rfl
  · refine qr_lp2 (fun (S_4 : qv_St) (x1_1 : Int32) => [(0, .ref (G.2.2.1 7)), (1, .int x1_1)]) (fun (S_4 : qv_St) (x1_1 : Int32) => S_4) (fun self_1 hself_1 S_4 x1_1 => ?_) qv_N S_1 0
    refine qr_iload_n (n := 9) 1 (dkX4_passLaw (i := 5) rfl) rfl rfl ?_
    refine qr_iconst (n := 10) 4 (dkX4_passLaw (i := 6) rfl) rfl (by decide) ?_
    refine qr_icmp_gt (t := 80) (n := 13) (dkX4_passLaw (i := 7) rfl) (by decide) rfl ?_ ?_
    · refine qr_sub [0] rfl ?_
      exact hK_1 S_4
    · refine qr_aload_n (n := 14) 0 (dkX4_passLaw (i := 8) rfl) rfl rfl ?_
      refine qr_geti (n := 17) 7 8 (dkX4_passLaw (i := 9) rfl) rfl lkO_7 rfl gnX4 (Nat.le_of_ble_eq_true rfl) kfX4_23 rfl ?_
      refine qr_if_ne (t := 80) (n := 20) (dkX4_passLaw (i := 10) rfl) (by decide) rfl ?_ ?_
      · refine qr_sub [0] rfl ?_
        exact hK_1 S_4
      · refine qr_aload_n (n := 21) 0 (dkX4_passLaw (i := 11) rfl) rfl rfl ?_
        refine qr_geta (n := 24) 7 0 3 (dkX4_passLaw (i := 12) rfl) rfl lkO_7 rfl gnX4 (Nat.le_of_ble_eq_true rfl) kfX4_19 rfl ?_
        refine qr_aload_n (n := 25) 0 (dkX4_passLaw (i := 13) rfl) rfl rfl ?_
        refine qr_geti (n := 28) 7 6 (dkX4_passLaw (i := 14) rfl) rfl lkO_7 rfl gnX4 (Nat.le_of_ble_eq_true rfl) kfX4_26 rfl ?_
        refine qr_cvi (n := 31) 3 [.int (S_4.1 7 6)] (dkX4_passLaw (i := 15) rfl) rfl kvX4_40 rfl rfl (Nat.le_of_ble_eq_true rfl) rfl rfl lkO_3 rfl (wX9_kindAt G S_4 (S_4.1 7 6)) (fun r_1 => ?_)
        refine qr_bipush (n := 33) 10 (dkX4_passLaw (i := 16) rfl) rfl (by decide) ?_
        refine qr_icmp_ne (t := 80) (n := 36) (dkX4_passLaw (i := 17) rfl) (by decide) rfl ?_ ?_
        · refine qr_sub [0] rfl ?_
          exact hK_1 S_4
        · refine qr_iload_n (n := 37) 1 (dkX4_passLaw (i := 18) rfl) rfl rfl ?_
          refine qr_iconst (n := 38) 4 (dkX4_passLaw (i := 19) rfl) rfl (by decide) ?_
          refine qr_j (fun K_2 : qv_St → Option qv_St => ∀ (S_5 : qv_St), VV G Lk X RX4 cX4_passLaw 2 none 4 qe_u 50 [(0, .ref (G.2.2.1 7)), (1, .int x1_1)] [] S_5 (K_2 S_5)) (fun S_5 => ?_) (fun K_2 hK_2 => ?_)
          · refine qr_aload_n (n := 51) 0 (dkX4_passLaw (i := 26) rfl) rfl rfl ?_
            refine qr_bipush (n := 53) 10 (dkX4_passLaw (i := 27) rfl) rfl (by decide) ?_
            refine qr_cvu (n := 56) 7 [.int 10] (dkX4_passLaw (i := 28) rfl) rfl kvX4_74 rfl rfl (Nat.le_of_ble_eq_true rfl) rfl rfl lkO_7 rfl (wX4_passOnly G S_5 10) (fun S_6 => ?_)
            refine qr_aload_n (n := 57) 0 (dkX4_passLaw (i := 29) rfl) rfl rfl ?_
            refine qr_bipush (n := 59) 60 (dkX4_passLaw (i := 30) rfl) rfl (by decide) ?_
            refine qr_cvu (n := 62) 7 [.int 60] (dkX4_passLaw (i := 31) rfl) rfl kvX4_77 rfl rfl (Nat.le_of_ble_eq_true rfl) rfl rfl lkO_7 rfl (wX4_passSum G S_6 60) (fun S_7 => ?_)
            refine qr_aload_n (n := 63) 0 (dkX4_passLaw (i := 32) rfl) rfl rfl ?_
            refine qr_bipush (n := 65) 11 (dkX4_passLaw (i := 33) rfl) rfl (by decide) ?_
            refine qr_cvu (n := 68) 7 [.int 11] (dkX4_passLaw (i := 34) rfl) rfl kvX4_77 rfl rfl (Nat.le_of_ble_eq_true rfl) rfl rfl lkO_7 rfl (wX4_passSum G S_7 11) (fun S_8 => ?_)
            refine qr_aload_n (n := 69) 0 (dkX4_passLaw (i := 35) rfl) rfl rfl ?_
            refine qr_bipush (n := 71) 12 (dkX4_passLaw (i := 36) rfl) rfl (by decide) ?_
            refine qr_cvu (n := 74) 7 [.int 12] (dkX4_passLaw (i := 37) rfl) rfl kvX4_77 rfl rfl (Nat.le_of_ble_eq_true rfl) rfl rfl lkO_7 rfl (wX4_passSum G S_8 12) (fun S_9 => ?_)
            refine qr_iinc (n := 77) (v := 1) (lv2 := [(0, .ref (G.2.2.1 7)), (1, .int (x1_1 + 1))]) 1 [1, 0] (dkX4_passLaw (i := 38) rfl) rfl rfl (by decide) (by decide) rfl ?_
            refine qr_goto (n := 8) (dkX4_passLaw (i := 39) rfl) (by decide) ?_
            exact hself_1 S_9 (x1_1 + 1)
          · refine qr_icmp_ne (t := 50) (n := 41) (dkX4_passLaw (i := 20) rfl) (by decide) rfl ?_ ?_
            · exact hK_2 S_4
            · refine qr_aload_n (n := 42) 0 (dkX4_passLaw (i := 21) rfl) rfl rfl ?_
              refine qr_iconst (n := 43) 2 (dkX4_passLaw (i := 22) rfl) rfl (by decide) ?_
              refine qr_aload_n (n := 44) 0 (dkX4_passLaw (i := 23) rfl) rfl rfl ?_
              refine qr_geti (n := 47) 7 6 (dkX4_passLaw (i := 24) rfl) rfl lkO_7 rfl gnX4 (Nat.le_of_ble_eq_true rfl) kfX4_26 rfl ?_
              refine qr_cvu (n := 50) 7 [.int 2, .int (S_4.1 7 6)] (dkX4_passLaw (i := 25) rfl) rfl kvX4_56 rfl rfl (Nat.le_of_ble_eq_true rfl) rfl rfl lkO_7 rfl (wX4_refuse G S_4 2 (S_4.1 7 6)) (fun S_10 => ?_)
              exact hK_2 S_10
def tbX4_passTell : List (Nat × Instr × Nat) := [(0, .aload_n 0, 1), (1, .getfield 19, 3), (4, .aload_n 0, 1), (5, .getfield 26, 3), (8, .invokevirtual 40, 3), (11, .tableswitch 170 0 9 #[53, 75, 97, 118, 140, 140, 140, 151, 151, 151], 53), (64, .aload_n 0, 1), (65, .aload_n 0, 1), (66, .aload_n 0, 1), (67, .getfield 29, 3), (70, .bipush 8, 2), (72, .invokevirtual 63, 3), (75, .putfield 29, 3), (78, .aload_n 0, 1), (79, .iconst 5, 1), (80, .invokevirtual 67, 3), (83, .goto 107, 3), (86, .aload_n 0, 1), (87, .aload_n 0, 1), (88, .aload_n 0, 1), (89, .getfield 29, 3), (92, .bipush 8, 2), (94, .invokevirtual 63, 3), (97, .putfield 29, 3), (100, .aload_n 0, 1), (101, .iconst 4, 1), (102, .invokevirtual 67, 3), (105, .goto 85, 3), (108, .aload_n 0, 1), (109, .aload_n 0, 1), (110, .aload_n 0, 1), (111, .getfield 32, 3), (114, .iconst 4, 1), (115, .invokevirtual 63, 3), (118, .putfield 32, 3), (121, .aload_n 0, 1), (122, .iconst 1, 1), (123, .invokevirtual 67, 3), (126, .goto 64, 3), (129, .aload_n 0, 1), (130, .aload_n 0, 1), (131, .aload_n 0, 1), (132, .getfield 35, 3), (135, .bipush 6, 2), (137, .invokevirtual 63, 3), (140, .putfield 35, 3), (143, .aload_n 0, 1), (144, .iconst 2, 1), (145, .invokevirtual 67, 3), (148, .goto 42, 3), (151, .aload_n 0, 1), (152, .invokevirtual 60, 3), (155, .aload_n 0, 1), (156, .invokevirtual 71, 3), (159, .goto 31, 3), (162, .aload_n 0, 1), (163, .invokevirtual 60, 3), (166, .aload_n 0, 1), (167, .bipush 23, 2), (169, .invokevirtual 74, 3), (172, .aload_n 0, 1), (173, .bipush 59, 2), (175, .invokevirtual 74, 3), (178, .goto 12, 3), (181, .aload_n 0, 1), (182, .iconst 1, 1), (183, .aload_n 0, 1), (184, .getfield 26, 3), (187, .invokevirtual 56, 3), (190, .return_, 1)]
set_option maxRecDepth 20000 in
theorem daX4_passTell : ∀ x ∈ tbX4_passTell, decode cX4_passTell x.1 = .ok x.2 := by decide +kernel
theorem dkX4_passTell {i pc n : Nat} {ins : Instr} (h : tbX4_passTell[i]? = some (pc, ins, n)) : decode cX4_passTell pc = .ok (ins, n) := daX4_passTell (pc, ins, n) (List.mem_of_getElem? h)
def fX4_passTell (S0 : qv_St) : Option qv_St :=
  (fX9_kindAt S0 (S0.1 7 6)).bind fun r_1 =>
  qv_sw r_1 0 9 [
    qv_cm (fX4_oneMore S0 (S0.1 7 3) 8) fun S_2 r_2 =>
    qv_b (qv_si S_2 7 3 r_2) fun S_3 =>
    (fX4_passNamed S_3 5).bind fun S_4 =>
    some S_4,
    qv_cm (fX4_oneMore S0 (S0.1 7 3) 8) fun S_5 r_3 =>
    qv_b (qv_si S_5 7 3 r_3) fun S_6 =>
    (fX4_passNamed S_6 4).bind fun S_7 =>
    some S_7,
    qv_cm (fX4_oneMore S0 (S0.1 7 4) 4) fun S_8 r_4 =>
    qv_b (qv_si S_8 7 4 r_4) fun S_9 =>
    (fX4_passNamed S_9 1).bind fun S_10 =>
    some S_10,
    qv_cm (fX4_oneMore S0 (S0.1 7 5) 6) fun S_11 r_5 =>
    qv_b (qv_si S_11 7 5 r_5) fun S_12 =>
    (fX4_passNamed S_12 2).bind fun S_13 =>
    some S_13,
    (fX4_pass S0).bind fun S_14 =>
    (fX4_passLaw S_14).bind fun S_15 =>
    some S_15,
    (fX4_pass S0).bind fun S_16 =>
    (fX4_passLaw S_16).bind fun S_17 =>
    some S_17,
    (fX4_pass S0).bind fun S_18 =>
    (fX4_passLaw S_18).bind fun S_19 =>
    some S_19,
    (fX4_pass S0).bind fun S_20 =>
    (fX4_passOnly S_20 23).bind fun S_21 =>
    (fX4_passOnly S_21 59).bind fun S_22 =>
    some S_22,
    (fX4_pass S0).bind fun S_23 =>
    (fX4_passOnly S_23 23).bind fun S_24 =>
    (fX4_passOnly S_24 59).bind fun S_25 =>
    some S_25,
    (fX4_pass S0).bind fun S_26 =>
    (fX4_passOnly S_26 23).bind fun S_27 =>
    (fX4_passOnly S_27 59).bind fun S_28 =>
    some S_28] (
    (fX4_refuse S0 1 (S0.1 7 6)).bind fun S_1 =>
    some S_1)
set_option maxRecDepth 20000 in
set_option maxHeartbeats 4000000 in
theorem wX4_passTell (G : qv_GT) (S0 : qv_St) : ∀ r, fX4_passTell S0 = some r → Cn G Lk yX4_passTell cX4_passTell 1 none 5 [.ref (G.2.2.1 7)] S0 (qe_u r) := by
  refine cn_of (own := RX4) (emb := qe_u) (lv := [(0, .ref (G.2.2.1 7))]) rfl rfl (Nat.le_of_ble_eq_true rfl) rfl (fun X => ?_)
  unfold fX4_passTell
  refine qr_aload_n (n := 1) 0 (dkX4_passTell (i := 0) rfl) rfl rfl ?_
  refine qr_geta (n := 4) 7 0 3 (dkX4_passTell (i := 1) rfl) rfl lkO_7 rfl gnX4 (Nat.le_of_ble_eq_true rfl) kfX4_19 rfl ?_
  refine qr_aload_n (n := 5) 0 (dkX4_passTell (i := 2) rfl) rfl rfl ?_
  refine qr_geti (n := 8) 7 6 (dkX4_passTell (i := 3) rfl) rfl lkO_7 rfl gnX4 (Nat.le_of_ble_eq_true rfl) kfX4_26 rfl ?_
  refine qr_cvi (n := 11) 3 [.int (S0.1 7 6)] (dkX4_passTell (i := 4) rfl) rfl kvX4_40 rfl rfl (Nat.le_of_ble_eq_true rfl) rfl rfl lkO_3 rfl (wX9_kindAt G S0 (S0.1 7 6)) (fun r_1 => ?_)
  refine qr_sw (td := 181) (dkX4_passTell (i := 5) rfl) (by decide) ?_ ⟨⟨64, by decide, ?_⟩, ⟨86, by decide, ?_⟩, ⟨108, by decide, ?_⟩, ⟨129, by decide, ?_⟩, ⟨151, by decide, ?_⟩, ⟨151, by decide, ?_⟩, ⟨151, by decide, ?_⟩, ⟨162, by decide, ?_⟩, ⟨162, by decide, ?_⟩, ⟨162, by decide, ?_⟩, trivial⟩
  · refine qr_aload_n (n := 182) 0 (dkX4_passTell (i := 64) rfl) rfl rfl ?_
    refine qr_iconst (n := 183) 1 (dkX4_passTell (i := 65) rfl) rfl (by decide) ?_
    refine qr_aload_n (n := 184) 0 (dkX4_passTell (i := 66) rfl) rfl rfl ?_
    refine qr_geti (n := 187) 7 6 (dkX4_passTell (i := 67) rfl) rfl lkO_7 rfl gnX4 (Nat.le_of_ble_eq_true rfl) kfX4_26 rfl ?_
    refine qr_cvu (n := 190) 7 [.int 1, .int (S0.1 7 6)] (dkX4_passTell (i := 68) rfl) rfl kvX4_56 rfl rfl (Nat.le_of_ble_eq_true rfl) rfl rfl lkO_7 rfl (wX4_refuse G S0 1 (S0.1 7 6)) (fun S_1 => ?_)
    exact qr_vret (dkX4_passTell (i := 69) rfl) rfl rfl
  · refine qr_aload_n (n := 65) 0 (dkX4_passTell (i := 6) rfl) rfl rfl ?_
    refine qr_aload_n (n := 66) 0 (dkX4_passTell (i := 7) rfl) rfl rfl ?_
    refine qr_aload_n (n := 67) 0 (dkX4_passTell (i := 8) rfl) rfl rfl ?_
    refine qr_geti (n := 70) 7 3 (dkX4_passTell (i := 9) rfl) rfl lkO_7 rfl gnX4 (Nat.le_of_ble_eq_true rfl) kfX4_29 rfl ?_
    refine qr_bipush (n := 72) 8 (dkX4_passTell (i := 10) rfl) rfl (by decide) ?_
    refine qr_cvm (n := 75) 7 [.int (S0.1 7 3), .int 8] (dkX4_passTell (i := 11) rfl) rfl kvX4_63 rfl rfl (Nat.le_of_ble_eq_true rfl) rfl rfl lkO_7 rfl (wX4_oneMore G S0 (S0.1 7 3) 8) (fun S_2 r_2 => ?_)
    refine qr_puti (n := 78) 7 3 (dkX4_passTell (i := 12) rfl) rfl lkO_7 rfl gnX4 (Nat.le_of_ble_eq_true rfl) kfX4_29 rfl tyX4_ok nmX4 rfl rfl (fun S_3 => ?_)
    refine qr_aload_n (n := 79) 0 (dkX4_passTell (i := 13) rfl) rfl rfl ?_
    refine qr_iconst (n := 80) 5 (dkX4_passTell (i := 14) rfl) rfl (by decide) ?_
    refine qr_cvu (n := 83) 7 [.int 5] (dkX4_passTell (i := 15) rfl) rfl kvX4_67 rfl rfl (Nat.le_of_ble_eq_true rfl) rfl rfl lkO_7 rfl (wX4_passNamed G S_3 5) (fun S_4 => ?_)
    refine qr_goto (n := 190) (dkX4_passTell (i := 16) rfl) (by decide) ?_
    exact qr_vret (dkX4_passTell (i := 69) rfl) rfl rfl
  · refine qr_aload_n (n := 87) 0 (dkX4_passTell (i := 17) rfl) rfl rfl ?_
    refine qr_aload_n (n := 88) 0 (dkX4_passTell (i := 18) rfl) rfl rfl ?_
    refine qr_aload_n (n := 89) 0 (dkX4_passTell (i := 19) rfl) rfl rfl ?_
    refine qr_geti (n := 92) 7 3 (dkX4_passTell (i := 20) rfl) rfl lkO_7 rfl gnX4 (Nat.le_of_ble_eq_true rfl) kfX4_29 rfl ?_
    refine qr_bipush (n := 94) 8 (dkX4_passTell (i := 21) rfl) rfl (by decide) ?_
    refine qr_cvm (n := 97) 7 [.int (S0.1 7 3), .int 8] (dkX4_passTell (i := 22) rfl) rfl kvX4_63 rfl rfl (Nat.le_of_ble_eq_true rfl) rfl rfl lkO_7 rfl (wX4_oneMore G S0 (S0.1 7 3) 8) (fun S_5 r_3 => ?_)
    refine qr_puti (n := 100) 7 3 (dkX4_passTell (i := 23) rfl) rfl lkO_7 rfl gnX4 (Nat.le_of_ble_eq_true rfl) kfX4_29 rfl tyX4_ok nmX4 rfl rfl (fun S_6 => ?_)
    refine qr_aload_n (n := 101) 0 (dkX4_passTell (i := 24) rfl) rfl rfl ?_
    refine qr_iconst (n := 102) 4 (dkX4_passTell (i := 25) rfl) rfl (by decide) ?_
    refine qr_cvu (n := 105) 7 [.int 4] (dkX4_passTell (i := 26) rfl) rfl kvX4_67 rfl rfl (Nat.le_of_ble_eq_true rfl) rfl rfl lkO_7 rfl (wX4_passNamed G S_6 4) (fun S_7 => ?_)
    refine qr_goto (n := 190) (dkX4_passTell (i := 27) rfl) (by decide) ?_
    exact qr_vret (dkX4_passTell (i := 69) rfl) rfl rfl
  · refine qr_aload_n (n := 109) 0 (dkX4_passTell (i := 28) rfl) rfl rfl ?_
    refine qr_aload_n (n := 110) 0 (dkX4_passTell (i := 29) rfl) rfl rfl ?_
    refine qr_aload_n (n := 111) 0 (dkX4_passTell (i := 30) rfl) rfl rfl ?_
    refine qr_geti (n := 114) 7 4 (dkX4_passTell (i := 31) rfl) rfl lkO_7 rfl gnX4 (Nat.le_of_ble_eq_true rfl) kfX4_32 rfl ?_
    refine qr_iconst (n := 115) 4 (dkX4_passTell (i := 32) rfl) rfl (by decide) ?_
    refine qr_cvm (n := 118) 7 [.int (S0.1 7 4), .int 4] (dkX4_passTell (i := 33) rfl) rfl kvX4_63 rfl rfl (Nat.le_of_ble_eq_true rfl) rfl rfl lkO_7 rfl (wX4_oneMore G S0 (S0.1 7 4) 4) (fun S_8 r_4 => ?_)
    refine qr_puti (n := 121) 7 4 (dkX4_passTell (i := 34) rfl) rfl lkO_7 rfl gnX4 (Nat.le_of_ble_eq_true rfl) kfX4_32 rfl tyX4_ok nmX4 rfl rfl (fun S_9 => ?_)
    refine qr_aload_n (n := 122) 0 (dkX4_passTell (i := 35) rfl) rfl rfl ?_
    refine qr_iconst (n := 123) 1 (dkX4_passTell (i := 36) rfl) rfl (by decide) ?_
    refine qr_cvu (n := 126) 7 [.int 1] (dkX4_passTell (i := 37) rfl) rfl kvX4_67 rfl rfl (Nat.le_of_ble_eq_true rfl) rfl rfl lkO_7 rfl (wX4_passNamed G S_9 1) (fun S_10 => ?_)
    refine qr_goto (n := 190) (dkX4_passTell (i := 38) rfl) (by decide) ?_
    exact qr_vret (dkX4_passTell (i := 69) rfl) rfl rfl
  · refine qr_aload_n (n := 130) 0 (dkX4_passTell (i := 39) rfl) rfl rfl ?_
    refine qr_aload_n (n := 131) 0 (dkX4_passTell (i := 40) rfl) rfl rfl ?_
    refine qr_aload_n (n := 132) 0 (dkX4_passTell (i := 41) rfl) rfl rfl ?_
    refine qr_geti (n := 135) 7 5 (dkX4_passTell (i := 42) rfl) rfl lkO_7 rfl gnX4 (Nat.le_of_ble_eq_true rfl) kfX4_35 rfl ?_
    refine qr_bipush (n := 137) 6 (dkX4_passTell (i := 43) rfl) rfl (by decide) ?_
    refine qr_cvm (n := 140) 7 [.int (S0.1 7 5), .int 6] (dkX4_passTell (i := 44) rfl) rfl kvX4_63 rfl rfl (Nat.le_of_ble_eq_true rfl) rfl rfl lkO_7 rfl (wX4_oneMore G S0 (S0.1 7 5) 6) (fun S_11 r_5 => ?_)
    refine qr_puti (n := 143) 7 5 (dkX4_passTell (i := 45) rfl) rfl lkO_7 rfl gnX4 (Nat.le_of_ble_eq_true rfl) kfX4_35 rfl tyX4_ok nmX4 rfl rfl (fun S_12 => ?_)
    refine qr_aload_n (n := 144) 0 (dkX4_passTell (i := 46) rfl) rfl rfl ?_
    refine qr_iconst (n := 145) 2 (dkX4_passTell (i := 47) rfl) rfl (by decide) ?_
    refine qr_cvu (n := 148) 7 [.int 2] (dkX4_passTell (i := 48) rfl) rfl kvX4_67 rfl rfl (Nat.le_of_ble_eq_true rfl) rfl rfl lkO_7 rfl (wX4_passNamed G S_12 2) (fun S_13 => ?_)
    refine qr_goto (n := 190) (dkX4_passTell (i := 49) rfl) (by decide) ?_
    exact qr_vret (dkX4_passTell (i := 69) rfl) rfl rfl
  · refine qr_aload_n (n := 152) 0 (dkX4_passTell (i := 50) rfl) rfl rfl ?_
    refine qr_cvu (n := 155) 7 [] (dkX4_passTell (i := 51) rfl) rfl kvX4_60 rfl rfl (Nat.le_of_ble_eq_true rfl) rfl rfl lkO_7 rfl (wX4_pass G S0) (fun S_14 => ?_)
    refine qr_aload_n (n := 156) 0 (dkX4_passTell (i := 52) rfl) rfl rfl ?_
    refine qr_cvu (n := 159) 7 [] (dkX4_passTell (i := 53) rfl) rfl kvX4_71 rfl rfl (Nat.le_of_ble_eq_true rfl) rfl rfl lkO_7 rfl (wX4_passLaw G S_14) (fun S_15 => ?_)
    refine qr_goto (n := 190) (dkX4_passTell (i := 54) rfl) (by decide) ?_
    exact qr_vret (dkX4_passTell (i := 69) rfl) rfl rfl
  · refine qr_aload_n (n := 152) 0 (dkX4_passTell (i := 50) rfl) rfl rfl ?_
    refine qr_cvu (n := 155) 7 [] (dkX4_passTell (i := 51) rfl) rfl kvX4_60 rfl rfl (Nat.le_of_ble_eq_true rfl) rfl rfl lkO_7 rfl (wX4_pass G S0) (fun S_16 => ?_)
    refine qr_aload_n (n := 156) 0 (dkX4_passTell (i := 52) rfl) rfl rfl ?_
    refine qr_cvu (n := 159) 7 [] (dkX4_passTell (i := 53) rfl) rfl kvX4_71 rfl rfl (Nat.le_of_ble_eq_true rfl) rfl rfl lkO_7 rfl (wX4_passLaw G S_16) (fun S_17 => ?_)
    refine qr_goto (n := 190) (dkX4_passTell (i := 54) rfl) (by decide) ?_
    exact qr_vret (dkX4_passTell (i := 69) rfl) rfl rfl
  · refine qr_aload_n (n := 152) 0 (dkX4_passTell (i := 50) rfl) rfl rfl ?_
    refine qr_cvu (n := 155) 7 [] (dkX4_passTell (i := 51) rfl) rfl kvX4_60 rfl rfl (Nat.le_of_ble_eq_true rfl) rfl rfl lkO_7 rfl (wX4_pass G S0) (fun S_18 => ?_)
    refine qr_aload_n (n := 156) 0 (dkX4_passTell (i := 52) rfl) rfl rfl ?_
    refine qr_cvu (n := 159) 7 [] (dkX4_passTell (i := 53) rfl) rfl kvX4_71 rfl rfl (Nat.le_of_ble_eq_true rfl) rfl rfl lkO_7 rfl (wX4_passLaw G S_18) (fun S_19 => ?_)
    refine qr_goto (n := 190) (dkX4_passTell (i := 54) rfl) (by decide) ?_
    exact qr_vret (dkX4_passTell (i := 69) rfl) rfl rfl
  · refine qr_aload_n (n := 163) 0 (dkX4_passTell (i := 55) rfl) rfl rfl ?_
    refine qr_cvu (n := 166) 7 [] (dkX4_passTell (i := 56) rfl) rfl kvX4_60 rfl rfl (Nat.le_of_ble_eq_true rfl) rfl rfl lkO_7 rfl (wX4_pass G S0) (fun S_20 => ?_)
    refine qr_aload_n (n := 167) 0 (dkX4_passTell (i := 57) rfl) rfl rfl ?_
    refine qr_bipush (n := 169) 23 (dkX4_passTell (i := 58) rfl) rfl (by decide) ?_
    refine qr_cvu (n := 172) 7 [.int 23] (dkX4_passTell (i := 59) rfl) rfl kvX4_74 rfl rfl (Nat.le_of_ble_eq_true rfl) rfl rfl lkO_7 rfl (wX4_passOnly G S_20 23) (fun S_21 => ?_)
    refine qr_aload_n (n := 173) 0 (dkX4_passTell (i := 60) rfl) rfl rfl ?_
    refine qr_bipush (n := 175) 59 (dkX4_passTell (i := 61) rfl) rfl (by decide) ?_
    refine qr_cvu (n := 178) 7 [.int 59] (dkX4_passTell (i := 62) rfl) rfl kvX4_74 rfl rfl (Nat.le_of_ble_eq_true rfl) rfl rfl lkO_7 rfl (wX4_passOnly G S_21 59) (fun S_22 => ?_)
    refine qr_goto (n := 190) (dkX4_passTell (i := 63) rfl) (by decide) ?_
    exact qr_vret (dkX4_passTell (i := 69) rfl) rfl rfl
  · refine qr_aload_n (n := 163) 0 (dkX4_passTell (i := 55) rfl) rfl rfl ?_
    refine qr_cvu (n := 166) 7 [] (dkX4_passTell (i := 56) rfl) rfl kvX4_60 rfl rfl (Nat.le_of_ble_eq_true rfl) rfl rfl lkO_7 rfl (wX4_pass G S0) (fun S_23 => ?_)
    refine qr_aload_n (n := 167) 0 (dkX4_passTell (i := 57) rfl) rfl rfl ?_
    refine qr_bipush (n := 169) 23 (dkX4_passTell (i := 58) rfl) rfl (by decide) ?_
    refine qr_cvu (n := 172) 7 [.int 23] (dkX4_passTell (i := 59) rfl) rfl kvX4_74 rfl rfl (Nat.le_of_ble_eq_true rfl) rfl rfl lkO_7 rfl (wX4_passOnly G S_23 23) (fun S_24 => ?_)
    refine qr_aload_n (n := 173) 0 (dkX4_passTell (i := 60) rfl) rfl rfl ?_
    refine qr_bipush (n := 175) 59 (dkX4_passTell (i := 61) rfl) rfl (by decide) ?_
    refine qr_cvu (n := 178) 7 [.int 59] (dkX4_passTell (i := 62) rfl) rfl kvX4_74 rfl rfl (Nat.le_of_ble_eq_true rfl) rfl rfl lkO_7 rfl (wX4_passOnly G S_24 59) (fun S_25 => ?_)
    refine qr_goto (n := 190) (dkX4_passTell (i := 63) rfl) (by decide) ?_
    exact qr_vret (dkX4_passTell (i := 69) rfl) rfl rfl
  · refine qr_aload_n (n := 163) 0 (dkX4_passTell (i := 55) rfl) rfl rfl ?_
    refine qr_cvu (n := 166) 7 [] (dkX4_passTell (i := 56) rfl) rfl kvX4_60 rfl rfl (Nat.le_of_ble_eq_true rfl) rfl rfl lkO_7 rfl (wX4_pass G S0) (fun S_26 => ?_)
    refine qr_aload_n (n := 167) 0 (dkX4_passTell (i := 57) rfl) rfl rfl ?_
    refine qr_bipush (n := 169) 23 (dkX4_passTell (i := 58) rfl) rfl (by decide) ?_
    refine qr_cvu (n := 172) 7 [.int 23] (dkX4_passTell (i := 59) rfl) rfl kvX4_74 rfl rfl (Nat.le_of_ble_eq_true rfl) rfl rfl lkO_7 rfl (wX4_passOnly G S_26 23) (fun S_27 => ?_)
    refine qr_aload_n (n := 173) 0 (dkX4_passTell (i := 60) rfl) rfl rfl ?_
    refine qr_bipush (n := 175) 59 (dkX4_passTell (i := 61) rfl) rfl (by decide) ?_
    refine qr_cvu (n := 178) 7 [.int 59] (dkX4_passTell (i := 62) rfl) rfl kvX4_74 rfl rfl (Nat.le_of_ble_eq_true rfl) rfl rfl lkO_7 rfl (wX4_passOnly G S_27 59) (fun S_28 => ?_)
    refine qr_goto (n := 190) (dkX4_passTell (i := 63) rfl) (by decide) ?_
    exact qr_vret (dkX4_passTell (i := 69) rfl) rfl rfl
def tbX4_isNewName : List (Nat × Instr × Nat) := [(0, .iconst 0, 1), (1, .istore_n 3, 1), (2, .iload_n 3, 1), (3, .aload_n 0, 1), (4, .getfield 87, 3), (7, .if_icmp .ge 22, 3), (10, .aload_n 0, 1), (11, .getfield 9, 3), (14, .iload_n 3, 1), (15, .laload, 1), (16, .lload_n 1, 1), (17, .lcmp, 1), (18, .ifCond .ne 5, 3), (21, .iconst 0, 1), (22, .ireturn, 1), (23, .iinc 3 1, 3), (26, .goto (-24), 3), (29, .aload_n 0, 1), (30, .getfield 87, 3), (33, .aload_n 0, 1), (34, .getfield 9, 3), (37, .arraylength, 1), (38, .if_icmp .ge 23, 3), (41, .aload_n 0, 1), (42, .getfield 9, 3), (45, .aload_n 0, 1), (46, .getfield 87, 3), (49, .lload_n 1, 1), (50, .lastore, 1), (51, .aload_n 0, 1), (52, .dup, 1), (53, .getfield 87, 3), (56, .iconst 1, 1), (57, .iadd, 1), (58, .putfield 87, 3), (61, .iconst 1, 1), (62, .ireturn, 1)]
set_option maxRecDepth 20000 in
theorem daX4_isNewName : ∀ x ∈ tbX4_isNewName, decode cX4_isNewName x.1 = .ok x.2 := by decide +kernel
theorem dkX4_isNewName {i pc n : Nat} {ins : Instr} (h : tbX4_isNewName[i]? = some (pc, ins, n)) : decode cX4_isNewName pc = .ok (ins, n) := daX4_isNewName (pc, ins, n) (List.mem_of_getElem? h)
def fX4_isNewName (S0 : qv_St) (x1 : Int64) : Option (qv_St × Int32) :=
  qv_j (
    if 18 ≤ (S0.1 7 2) then
      some (S0, 1)
    else
      qv_ck (S0.1 7 2) 18 <| qv_b (qv_sl S0 8 (Int32.toNatClampNeg (S0.1 7 2)) x1) fun S_1 =>
      qv_b (qv_si S_1 7 2 ((S_1.1 7 2) + 1)) fun S_2 =>
      some (S_2, 1)) fun K_1 =>
  qv_lp1 qv_N (fun self_1 (x3_1 : Int32) =>
    if (S0.1 7 2) ≤ x3_1 then
      K_1
    else
      qv_ck x3_1 18 <|
      if (lg_cmp (S0.2 8 (Int32.toNatClampNeg x3_1)) x1) = 0 then
        some (S0, 0)
      else
        self_1 (x3_1 + 1)) 0
set_option maxRecDepth 20000 in
set_option maxHeartbeats 4000000 in
theorem wX4_isNewName (G : qv_GT) (S0 : qv_St) (x1 : Int64) : ∀ r, fX4_isNewName S0 x1 = some r → Cn G Lk yX4_isNewName cX4_isNewName 4 (some .boolean) 1 [.ref (G.2.2.1 7), .long x1] S0 (qe_m r) := by
  refine cn_of (own := RX4) (emb := qe_m) (lv := [(0, .ref (G.2.2.1 7)), (1, .long x1)]) rfl rfl (Nat.le_of_ble_eq_true rfl) rfl (fun X => ?_)
  unfold fX4_isNewName
  refine qr_iconst (n := 1) 0 (dkX4_isNewName (i := 0) rfl) rfl (by decide) ?_
  refine qr_istore_n (n := 2) (lv2 := [(0, .ref (G.2.2.1 7)), (1, .long x1), (3, .int 0)]) [1, 2, 0] (dkX4_isNewName (i := 1) rfl) rfl rfl (by decide) rfl ?_
  refine qr_j (fun K_1 : Option (qv_St × Int32) => VV G Lk X RX4 cX4_isNewName 4 (some .boolean) 1 qe_m 29 [(0, .ref (G.2.2.1 7)), (1, .long x1)] [] S0 (K_1)) (?_) (fun K_1 hK_1 => ?_)
  · refine qr_aload_n (n := 30) 0 (dkX4_isNewName (i := 17) rfl) rfl rfl ?_
    refine qr_geti (n := 33) 7 2 (dkX4_isNewName (i := 18) rfl) rfl lkO_7 rfl gnX4 (Nat.le_of_ble_eq_true rfl) kfX4_87 rfl ?_
    refine qr_aload_n (n := 34) 0 (dkX4_isNewName (i := 19) rfl) rfl rfl ?_
    refine qr_geta (n := 37) 7 1 8 (dkX4_isNewName (i := 20) rfl) rfl lkO_7 rfl gnX4 (Nat.le_of_ble_eq_true rfl) kfX4_9 rfl ?_
    refine qr_alenl (n := 38) 8 18 18 (dkX4_isNewName (i := 21) rfl) rfl lkA_8 (by decide) ?_
    refine qr_icmp_ge (t := 61) (n := 41) (dkX4_isNewName (i := 22) rfl) (by decide) rfl ?_ ?_
    · refine qr_iconst (n := 62) 1 (dkX4_isNewName (i := 35) rfl) rfl (by decide) ?_
      exact qr_zretc (dkX4_isNewName (i := 36) rfl) rfl rfl rfl
    · refine qr_aload_n (n := 42) 0 (dkX4_isNewName (i := 23) rfl) rfl rfl ?_
      refine qr_geta (n := 45) 7 1 8 (dkX4_isNewName (i := 24) rfl) rfl lkO_7 rfl gnX4 (Nat.le_of_ble_eq_true rfl) kfX4_9 rfl ?_
      refine qr_aload_n (n := 46) 0 (dkX4_isNewName (i := 25) rfl) rfl rfl ?_
      refine qr_geti (n := 49) 7 2 (dkX4_isNewName (i := 26) rfl) rfl lkO_7 rfl gnX4 (Nat.le_of_ble_eq_true rfl) kfX4_87 rfl ?_
      refine qr_lload_n (n := 50) 1 (dkX4_isNewName (i := 27) rfl) rfl rfl ?_
      refine qr_last (n := 51) 8 18 (dkX4_isNewName (i := 28) rfl) rfl lkA_8 (fun S_1 => ?_)
      refine qr_aload_n (n := 52) 0 (dkX4_isNewName (i := 29) rfl) rfl rfl ?_
      refine qr_dup (n := 53) (dkX4_isNewName (i := 30) rfl) rfl rfl ?_
      refine qr_geti (n := 56) 7 2 (dkX4_isNewName (i := 31) rfl) rfl lkO_7 rfl gnX4 (Nat.le_of_ble_eq_true rfl) kfX4_87 rfl ?_
      refine qr_iconst (n := 57) 1 (dkX4_isNewName (i := 32) rfl) rfl (by decide) ?_
      refine qr_iadd (n := 58) (dkX4_isNewName (i := 33) rfl) rfl ?_
      refine qr_puti (n := 61) 7 2 (dkX4_isNewName (i := 34) rfl) rfl lkO_7 rfl gnX4 (Nat.le_of_ble_eq_true rfl) kfX4_87 rfl tyX4_ok nmX4 rfl rfl (fun S_2 => ?_)
      refine qr_iconst (n := 62) 1 (dkX4_isNewName (i := 35) rfl) rfl (by decide) ?_
      exact qr_zretc (dkX4_isNewName (i := 36) rfl) rfl rfl rfl
  · refine qr_lp1 (fun (x3_1 : Int32) => [(0, .ref (G.2.2.1 7)), (1, .long x1), (3, .int x3_1)]) (fun (x3_1 : Int32) => S0) (fun self_1 hself_1 x3_1 => ?_) qv_N 0
    refine qr_iload_n (n := 3) 2 (dkX4_isNewName (i := 2) rfl) rfl rfl ?_
    refine qr_aload_n (n := 4) 0 (dkX4_isNewName (i := 3) rfl) rfl rfl ?_
    refine qr_geti (n := 7) 7 2 (dkX4_isNewName (i := 4) rfl) rfl lkO_7 rfl gnX4 (Nat.le_of_ble_eq_true rfl) kfX4_87 rfl ?_
    refine qr_icmp_ge (t := 29) (n := 10) (dkX4_isNewName (i := 5) rfl) (by decide) rfl ?_ ?_
    · refine qr_sub [0, 1] rfl ?_
      exact hK_1
    · refine qr_aload_n (n := 11) 0 (dkX4_isNewName (i := 6) rfl) rfl rfl ?_
      refine qr_geta (n := 14) 7 1 8 (dkX4_isNewName (i := 7) rfl) rfl lkO_7 rfl gnX4 (Nat.le_of_ble_eq_true rfl) kfX4_9 rfl ?_
      refine qr_iload_n (n := 15) 2 (dkX4_isNewName (i := 8) rfl) rfl rfl ?_
      refine qr_lald (n := 16) 8 18 (dkX4_isNewName (i := 9) rfl) rfl lkA_8 ?_
      refine qr_lload_n (n := 17) 1 (dkX4_isNewName (i := 10) rfl) rfl rfl ?_
      refine qr_lcmp (n := 18) (dkX4_isNewName (i := 11) rfl) rfl ?_
      refine qr_if_ne (t := 23) (n := 21) (dkX4_isNewName (i := 12) rfl) (by decide) rfl ?_ ?_
      · refine qr_iinc (n := 26) (v := 1) (lv2 := [(0, .ref (G.2.2.1 7)), (1, .long x1), (3, .int (x3_1 + 1))]) 2 [1, 2, 0] (dkX4_isNewName (i := 15) rfl) rfl rfl (by decide) (by decide) rfl ?_
        refine qr_goto (n := 2) (dkX4_isNewName (i := 16) rfl) (by decide) ?_
        exact hself_1 (x3_1 + 1)
      · refine qr_iconst (n := 22) 0 (dkX4_isNewName (i := 13) rfl) rfl (by decide) ?_
        exact qr_zretc (dkX4_isNewName (i := 14) rfl) rfl rfl rfl
def tbX11_within : List (Nat × Instr × Nat) := [(0, .iload_n 0, 1), (1, .iload_n 1, 1), (2, .if_icmp .lt 12, 3), (5, .iload_n 0, 1), (6, .iload_n 2, 1), (7, .if_icmp .gt 7, 3), (10, .iconst 1, 1), (11, .goto 4, 3), (14, .iconst 0, 1), (15, .ireturn, 1)]
set_option maxRecDepth 20000 in
theorem daX11_within : ∀ x ∈ tbX11_within, decode cX11_within x.1 = .ok x.2 := by decide +kernel
theorem dkX11_within {i pc n : Nat} {ins : Instr} (h : tbX11_within[i]? = some (pc, ins, n)) : decode cX11_within pc = .ok (ins, n) := daX11_within (pc, ins, n) (List.mem_of_getElem? h)
def fX11_within (x0 : Int32) (x1 : Int32) (x2 : Int32) : Option Int32 :=
  qv_j (
    some 0) fun K_1 =>
  if x0 < x1 then
    K_1
  else
    if x2 < x0 then
      K_1
    else
      some 1
set_option maxRecDepth 20000 in
set_option maxHeartbeats 4000000 in
theorem wX11_within (G : qv_GT) (S0 : qv_St) (x0 : Int32) (x1 : Int32) (x2 : Int32) : ∀ r, fX11_within x0 x1 x2 = some r → Cn G Lk yX11_within cX11_within 3 (some .boolean) 1 [.int x0, .int x1, .int x2] S0 ((qe_i S0) r) := by
  refine cn_of (own := RX11) (emb := (qe_i S0)) (lv := [(0, .int x0), (1, .int x1), (2, .int x2)]) rfl rfl (Nat.le_of_ble_eq_true rfl) rfl (fun X => ?_)
  unfold fX11_within
  refine qr_iload_n (n := 1) 0 (dkX11_within (i := 0) rfl) rfl rfl ?_
  refine qr_iload_n (n := 2) 1 (dkX11_within (i := 1) rfl) rfl rfl ?_
  refine qr_j (fun K_1 : Option Int32 => VV G Lk X RX11 cX11_within 3 (some .boolean) 1 (qe_i S0) 14 [] [] S0 (K_1)) (?_) (fun K_1 hK_1 => ?_)
  · refine qr_iconst (n := 15) 0 (dkX11_within (i := 8) rfl) rfl (by decide) ?_
    exact qr_zretc (dkX11_within (i := 9) rfl) rfl rfl rfl
  · refine qr_icmp_lt (t := 14) (n := 5) (dkX11_within (i := 2) rfl) (by decide) rfl ?_ ?_
    · refine qr_sub [] rfl ?_
      exact hK_1
    · refine qr_iload_n (n := 6) 0 (dkX11_within (i := 3) rfl) rfl rfl ?_
      refine qr_iload_n (n := 7) 2 (dkX11_within (i := 4) rfl) rfl rfl ?_
      refine qr_icmp_gt (t := 14) (n := 10) (dkX11_within (i := 5) rfl) (by decide) rfl ?_ ?_
      · refine qr_sub [] rfl ?_
        exact hK_1
      · refine qr_iconst (n := 11) 1 (dkX11_within (i := 6) rfl) rfl (by decide) ?_
        refine qr_goto (n := 15) (dkX11_within (i := 7) rfl) (by decide) ?_
        exact qr_zretc (dkX11_within (i := 9) rfl) rfl rfl rfl
def tbX4_fits : List (Nat × Instr × Nat) := [(0, .iload_n 0, 1), (1, .tableswitch 191 0 7 #[47, 96, 140, 152, 191, 191, 191, 179], 47), (48, .iload_n 1, 1), (49, .iconst 2, 1), (50, .if_icmp .ne 16, 3), (53, .iload_n 2, 1), (54, .sipush 999, 3), (57, .if_icmp .gt 7, 3), (60, .iconst 1, 1), (61, .goto 4, 3), (64, .iconst 0, 1), (65, .ireturn, 1), (66, .iload_n 1, 1), (67, .iconst 3, 1), (68, .if_icmp .ne 12, 3), (71, .iload_n 2, 1), (72, .iconst 1, 1), (73, .sipush 999, 3), (76, .invokestatic 108, 3), (79, .ireturn, 1), (80, .iload_n 2, 1), (81, .iload_n 1, 1), (82, .iconst 4, 1), (83, .if_icmp .ne 7, 3), (86, .iconst 1, 1), (87, .goto 4, 3), (90, .iconst 0, 1), (91, .bipush 99, 2), (93, .invokestatic 108, 3), (96, .ireturn, 1), (97, .iload_n 1, 1), (98, .iconst 2, 1), (99, .if_icmp .ne 15, 3), (102, .iload_n 2, 1), (103, .bipush 100, 2), (105, .if_icmp .gt 7, 3), (108, .iconst 1, 1), (109, .goto 4, 3), (112, .iconst 0, 1), (113, .ireturn, 1), (114, .iload_n 1, 1), (115, .iconst 3, 1), (116, .if_icmp .ne 13, 3), (119, .iload_n 2, 1), (120, .iconst 1, 1), (121, .bipush 20, 2), (123, .invokestatic 108, 3), (126, .goto 14, 3), (129, .iload_n 2, 1), (130, .bipush 99, 2), (132, .if_icmp .gt 7, 3), (135, .iconst 1, 1), (136, .goto 4, 3), (139, .iconst 0, 1), (140, .ireturn, 1), (141, .iload_n 2, 1), (142, .bipush 9, 2), (144, .if_icmp .gt 7, 3), (147, .iconst 1, 1), (148, .goto 4, 3), (151, .iconst 0, 1), (152, .ireturn, 1), (153, .iload_n 1, 1), (154, .iconst 2, 1), (155, .if_icmp .ne 13, 3), (158, .iload_n 2, 1), (159, .iconst 1, 1), (160, .bipush 9, 2), (162, .invokestatic 108, 3), (165, .goto 14, 3), (168, .iload_n 2, 1), (169, .bipush 99, 2), (171, .if_icmp .gt 7, 3), (174, .iconst 1, 1), (175, .goto 4, 3), (178, .iconst 0, 1), (179, .ireturn, 1), (180, .iload_n 2, 1), (181, .bipush 99, 2), (183, .if_icmp .gt 7, 3), (186, .iconst 1, 1), (187, .goto 4, 3), (190, .iconst 0, 1), (191, .ireturn, 1), (192, .iconst 1, 1), (193, .ireturn, 1)]
set_option maxRecDepth 20000 in
theorem daX4_fits : ∀ x ∈ tbX4_fits, decode cX4_fits x.1 = .ok x.2 := by decide +kernel
theorem dkX4_fits {i pc n : Nat} {ins : Instr} (h : tbX4_fits[i]? = some (pc, ins, n)) : decode cX4_fits pc = .ok (ins, n) := daX4_fits (pc, ins, n) (List.mem_of_getElem? h)
def fX4_fits (x0 : Int32) (x1 : Int32) (x2 : Int32) : Option Int32 :=
  qv_sw x0 0 7 [
    if x1 = 2 then
      if 999 < x2 then
        some 0
      else
        some 1
    else
      if x1 = 3 then
        (fX11_within x2 1 999).bind fun r_2 =>
        qv_rz r_2 (some r_2)
      else
        qv_j (fun (t_1 : Int32) =>
          (fX11_within x2 t_1 99).bind fun r_1 =>
          qv_rz r_1 (some r_1)) fun K_1 =>
        if x1 = 4 then
          K_1 1
        else
          K_1 0,
    if x1 = 2 then
      if 100 < x2 then
        some 0
      else
        some 1
    else
      if x1 = 3 then
        (fX11_within x2 1 20).bind fun r_3 =>
        qv_rz r_3 (some r_3)
      else
        if 99 < x2 then
          some 0
        else
          some 1,
    if 9 < x2 then
      some 0
    else
      some 1,
    if x1 = 2 then
      (fX11_within x2 1 9).bind fun r_4 =>
      qv_rz r_4 (some r_4)
    else
      if 99 < x2 then
        some 0
      else
        some 1,
    some 1,
    some 1,
    some 1,
    if 99 < x2 then
      some 0
    else
      some 1] (
    some 1)
set_option maxRecDepth 20000 in
set_option maxHeartbeats 4000000 in
theorem wX4_fits (G : qv_GT) (S0 : qv_St) (x0 : Int32) (x1 : Int32) (x2 : Int32) : ∀ r, fX4_fits x0 x1 x2 = some r → Cn G Lk yX4_fits cX4_fits 3 (some .boolean) 2 [.int x0, .int x1, .int x2] S0 ((qe_i S0) r) := by
  refine cn_of (own := RX4) (emb := (qe_i S0)) (lv := [(0, .int x0), (1, .int x1), (2, .int x2)]) rfl rfl (Nat.le_of_ble_eq_true rfl) rfl (fun X => ?_)
  unfold fX4_fits
  refine qr_iload_n (n := 1) 0 (dkX4_fits (i := 0) rfl) rfl rfl ?_
  refine qr_sw (td := 192) (dkX4_fits (i := 1) rfl) (by decide) ?_ ⟨⟨48, by decide, ?_⟩, ⟨97, by decide, ?_⟩, ⟨141, by decide, ?_⟩, ⟨153, by decide, ?_⟩, ⟨192, by decide, ?_⟩, ⟨192, by decide, ?_⟩, ⟨192, by decide, ?_⟩, ⟨180, by decide, ?_⟩, trivial⟩
  · refine qr_iconst (n := 193) 1 (dkX4_fits (i := 84) rfl) rfl (by decide) ?_
    exact qr_zretc (dkX4_fits (i := 85) rfl) rfl rfl rfl
  · refine qr_iload_n (n := 49) 1 (dkX4_fits (i := 2) rfl) rfl rfl ?_
    refine qr_iconst (n := 50) 2 (dkX4_fits (i := 3) rfl) rfl (by decide) ?_
    refine qr_icmp_ne (t := 66) (n := 53) (dkX4_fits (i := 4) rfl) (by decide) rfl ?_ ?_
    · refine qr_iload_n (n := 67) 1 (dkX4_fits (i := 12) rfl) rfl rfl ?_
      refine qr_iconst (n := 68) 3 (dkX4_fits (i := 13) rfl) rfl (by decide) ?_
      refine qr_icmp_ne (t := 80) (n := 71) (dkX4_fits (i := 14) rfl) (by decide) rfl ?_ ?_
      · refine qr_iload_n (n := 81) 2 (dkX4_fits (i := 20) rfl) rfl rfl ?_
        refine qr_iload_n (n := 82) 1 (dkX4_fits (i := 21) rfl) rfl rfl ?_
        refine qr_iconst (n := 83) 4 (dkX4_fits (i := 22) rfl) rfl (by decide) ?_
        refine qr_j (fun K_1 : Int32 → Option Int32 => ∀ (t_1 : Int32), VV G Lk X RX4 cX4_fits 3 (some .boolean) 2 (qe_i S0) 91 [] [.int t_1, .int x2] S0 (K_1 t_1)) (fun t_1 => ?_) (fun K_1 hK_1 => ?_)
        · refine qr_bipush (n := 93) 99 (dkX4_fits (i := 27) rfl) rfl (by decide) ?_
          refine qr_csiN (n := 96) [.int x2, .int t_1, .int 99] (dkX4_fits (i := 28) rfl) rfl rfl rfl kwit rfl rfl (Nat.le_of_ble_eq_true rfl) rfl rfl (wX11_within G S0 x2 t_1 99) (fun r_1 => ?_)
          exact qr_zret (dkX4_fits (i := 29) rfl) rfl rfl
        · refine qr_icmp_ne (t := 90) (n := 86) (dkX4_fits (i := 23) rfl) (by decide) rfl ?_ ?_
          · refine qr_iconst (n := 91) 0 (dkX4_fits (i := 26) rfl) rfl (by decide) ?_
            refine qr_sub [] rfl ?_
            exact hK_1 0
          · refine qr_iconst (n := 87) 1 (dkX4_fits (i := 24) rfl) rfl (by decide) ?_
            refine qr_goto (n := 91) (dkX4_fits (i := 25) rfl) (by decide) ?_
            refine qr_sub [] rfl ?_
            exact hK_1 1
      · refine qr_iload_n (n := 72) 2 (dkX4_fits (i := 15) rfl) rfl rfl ?_
        refine qr_iconst (n := 73) 1 (dkX4_fits (i := 16) rfl) rfl (by decide) ?_
        refine qr_sipush (n := 76) 999 (dkX4_fits (i := 17) rfl) rfl (by decide) ?_
        refine qr_csiN (n := 79) [.int x2, .int 1, .int 999] (dkX4_fits (i := 18) rfl) rfl rfl rfl kwit rfl rfl (Nat.le_of_ble_eq_true rfl) rfl rfl (wX11_within G S0 x2 1 999) (fun r_2 => ?_)
        exact qr_zret (dkX4_fits (i := 19) rfl) rfl rfl
    · refine qr_iload_n (n := 54) 2 (dkX4_fits (i := 5) rfl) rfl rfl ?_
      refine qr_sipush (n := 57) 999 (dkX4_fits (i := 6) rfl) rfl (by decide) ?_
      refine qr_icmp_gt (t := 64) (n := 60) (dkX4_fits (i := 7) rfl) (by decide) rfl ?_ ?_
      · refine qr_iconst (n := 65) 0 (dkX4_fits (i := 10) rfl) rfl (by decide) ?_
        exact qr_zretc (dkX4_fits (i := 11) rfl) rfl rfl rfl
      · refine qr_iconst (n := 61) 1 (dkX4_fits (i := 8) rfl) rfl (by decide) ?_
        refine qr_goto (n := 65) (dkX4_fits (i := 9) rfl) (by decide) ?_
        exact qr_zretc (dkX4_fits (i := 11) rfl) rfl rfl rfl
  · refine qr_iload_n (n := 98) 1 (dkX4_fits (i := 30) rfl) rfl rfl ?_
    refine qr_iconst (n := 99) 2 (dkX4_fits (i := 31) rfl) rfl (by decide) ?_
    refine qr_icmp_ne (t := 114) (n := 102) (dkX4_fits (i := 32) rfl) (by decide) rfl ?_ ?_
    · refine qr_iload_n (n := 115) 1 (dkX4_fits (i := 40) rfl) rfl rfl ?_
      refine qr_iconst (n := 116) 3 (dkX4_fits (i := 41) rfl) rfl (by decide) ?_
      refine qr_icmp_ne (t := 129) (n := 119) (dkX4_fits (i := 42) rfl) (by decide) rfl ?_ ?_
      · refine qr_iload_n (n := 130) 2 (dkX4_fits (i := 48) rfl) rfl rfl ?_
        refine qr_bipush (n := 132) 99 (dkX4_fits (i := 49) rfl) rfl (by decide) ?_
        refine qr_icmp_gt (t := 139) (n := 135) (dkX4_fits (i := 50) rfl) (by decide) rfl ?_ ?_
        · refine qr_iconst (n := 140) 0 (dkX4_fits (i := 53) rfl) rfl (by decide) ?_
          exact qr_zretc (dkX4_fits (i := 54) rfl) rfl rfl rfl
        · refine qr_iconst (n := 136) 1 (dkX4_fits (i := 51) rfl) rfl (by decide) ?_
          refine qr_goto (n := 140) (dkX4_fits (i := 52) rfl) (by decide) ?_
          exact qr_zretc (dkX4_fits (i := 54) rfl) rfl rfl rfl
      · refine qr_iload_n (n := 120) 2 (dkX4_fits (i := 43) rfl) rfl rfl ?_
        refine qr_iconst (n := 121) 1 (dkX4_fits (i := 44) rfl) rfl (by decide) ?_
        refine qr_bipush (n := 123) 20 (dkX4_fits (i := 45) rfl) rfl (by decide) ?_
        refine qr_csiN (n := 126) [.int x2, .int 1, .int 20] (dkX4_fits (i := 46) rfl) rfl rfl rfl kwit rfl rfl (Nat.le_of_ble_eq_true rfl) rfl rfl (wX11_within G S0 x2 1 20) (fun r_3 => ?_)
        refine qr_goto (n := 140) (dkX4_fits (i := 47) rfl) (by decide) ?_
        exact qr_zret (dkX4_fits (i := 54) rfl) rfl rfl
    · refine qr_iload_n (n := 103) 2 (dkX4_fits (i := 33) rfl) rfl rfl ?_
      refine qr_bipush (n := 105) 100 (dkX4_fits (i := 34) rfl) rfl (by decide) ?_
      refine qr_icmp_gt (t := 112) (n := 108) (dkX4_fits (i := 35) rfl) (by decide) rfl ?_ ?_
      · refine qr_iconst (n := 113) 0 (dkX4_fits (i := 38) rfl) rfl (by decide) ?_
        exact qr_zretc (dkX4_fits (i := 39) rfl) rfl rfl rfl
      · refine qr_iconst (n := 109) 1 (dkX4_fits (i := 36) rfl) rfl (by decide) ?_
        refine qr_goto (n := 113) (dkX4_fits (i := 37) rfl) (by decide) ?_
        exact qr_zretc (dkX4_fits (i := 39) rfl) rfl rfl rfl
  · refine qr_iload_n (n := 142) 2 (dkX4_fits (i := 55) rfl) rfl rfl ?_
    refine qr_bipush (n := 144) 9 (dkX4_fits (i := 56) rfl) rfl (by decide) ?_
    refine qr_icmp_gt (t := 151) (n := 147) (dkX4_fits (i := 57) rfl) (by decide) rfl ?_ ?_
    · refine qr_iconst (n := 152) 0 (dkX4_fits (i := 60) rfl) rfl (by decide) ?_
      exact qr_zretc (dkX4_fits (i := 61) rfl) rfl rfl rfl
    · refine qr_iconst (n := 148) 1 (dkX4_fits (i := 58) rfl) rfl (by decide) ?_
      refine qr_goto (n := 152) (dkX4_fits (i := 59) rfl) (by decide) ?_
      exact qr_zretc (dkX4_fits (i := 61) rfl) rfl rfl rfl
  · refine qr_iload_n (n := 154) 1 (dkX4_fits (i := 62) rfl) rfl rfl ?_
    refine qr_iconst (n := 155) 2 (dkX4_fits (i := 63) rfl) rfl (by decide) ?_
    refine qr_icmp_ne (t := 168) (n := 158) (dkX4_fits (i := 64) rfl) (by decide) rfl ?_ ?_
    · refine qr_iload_n (n := 169) 2 (dkX4_fits (i := 70) rfl) rfl rfl ?_
      refine qr_bipush (n := 171) 99 (dkX4_fits (i := 71) rfl) rfl (by decide) ?_
      refine qr_icmp_gt (t := 178) (n := 174) (dkX4_fits (i := 72) rfl) (by decide) rfl ?_ ?_
      · refine qr_iconst (n := 179) 0 (dkX4_fits (i := 75) rfl) rfl (by decide) ?_
        exact qr_zretc (dkX4_fits (i := 76) rfl) rfl rfl rfl
      · refine qr_iconst (n := 175) 1 (dkX4_fits (i := 73) rfl) rfl (by decide) ?_
        refine qr_goto (n := 179) (dkX4_fits (i := 74) rfl) (by decide) ?_
        exact qr_zretc (dkX4_fits (i := 76) rfl) rfl rfl rfl
    · refine qr_iload_n (n := 159) 2 (dkX4_fits (i := 65) rfl) rfl rfl ?_
      refine qr_iconst (n := 160) 1 (dkX4_fits (i := 66) rfl) rfl (by decide) ?_
      refine qr_bipush (n := 162) 9 (dkX4_fits (i := 67) rfl) rfl (by decide) ?_
      refine qr_csiN (n := 165) [.int x2, .int 1, .int 9] (dkX4_fits (i := 68) rfl) rfl rfl rfl kwit rfl rfl (Nat.le_of_ble_eq_true rfl) rfl rfl (wX11_within G S0 x2 1 9) (fun r_4 => ?_)
      refine qr_goto (n := 179) (dkX4_fits (i := 69) rfl) (by decide) ?_
      exact qr_zret (dkX4_fits (i := 76) rfl) rfl rfl
  · refine qr_iconst (n := 193) 1 (dkX4_fits (i := 84) rfl) rfl (by decide) ?_
    exact qr_zretc (dkX4_fits (i := 85) rfl) rfl rfl rfl
  · refine qr_iconst (n := 193) 1 (dkX4_fits (i := 84) rfl) rfl (by decide) ?_
    exact qr_zretc (dkX4_fits (i := 85) rfl) rfl rfl rfl
  · refine qr_iconst (n := 193) 1 (dkX4_fits (i := 84) rfl) rfl (by decide) ?_
    exact qr_zretc (dkX4_fits (i := 85) rfl) rfl rfl rfl
  · refine qr_iload_n (n := 181) 2 (dkX4_fits (i := 77) rfl) rfl rfl ?_
    refine qr_bipush (n := 183) 99 (dkX4_fits (i := 78) rfl) rfl (by decide) ?_
    refine qr_icmp_gt (t := 190) (n := 186) (dkX4_fits (i := 79) rfl) (by decide) rfl ?_ ?_
    · refine qr_iconst (n := 191) 0 (dkX4_fits (i := 82) rfl) rfl (by decide) ?_
      exact qr_zretc (dkX4_fits (i := 83) rfl) rfl rfl rfl
    · refine qr_iconst (n := 187) 1 (dkX4_fits (i := 80) rfl) rfl (by decide) ?_
      refine qr_goto (n := 191) (dkX4_fits (i := 81) rfl) (by decide) ?_
      exact qr_zretc (dkX4_fits (i := 83) rfl) rfl rfl rfl
def tbX4_checkNamesAndNumbers : List (Nat × Instr × Nat) := [(0, .aload_n 0, 1), (1, .iconst 0, 1), (2, .putfield 87, 3), (5, .iconst 0, 1), (6, .istore_n 1, 1), (7, .iconst 0, 1), (8, .istore_n 2, 1), (9, .iload_n 2, 1), (10, .aload_n 0, 1), (11, .getfield 19, 3), (14, .getfield 90, 3), (17, .if_icmp .ge 105, 3), (20, .aload_n 0, 1), (21, .getfield 23, 3), (24, .ifCond .ne 98, 3), (27, .aload_n 0, 1), (28, .getfield 19, 3), (31, .iload_n 2, 1), (32, .invokevirtual 40, 3), (35, .istore_n 3, 1), (36, .iload_n 3, 1), (37, .bipush 59, 2), (39, .if_icmp .ne 10, 3), (42, .iload_n 2, 1), (43, .iconst 1, 1), (44, .iadd, 1), (45, .istore_n 1, 1), (46, .goto 70, 3), (49, .iload_n 3, 1), (50, .bipush 22, 2), (52, .if_icmp .ne 27, 3), (55, .aload_n 0, 1), (56, .aload_n 0, 1), (57, .getfield 19, 3), (60, .iload_n 2, 1), (61, .invokevirtual 93, 3), (64, .invokevirtual 97, 3), (67, .ifCond .ne 12, 3), (70, .aload_n 0, 1), (71, .iconst 3, 1), (72, .iload_n 2, 1), (73, .invokevirtual 56, 3), (76, .goto 40, 3), (79, .iload_n 3, 1), (80, .bipush 23, 2), (82, .if_icmp .ne 34, 3), (85, .aload_n 0, 1), (86, .getfield 19, 3), (89, .iload_n 1, 1), (90, .invokevirtual 40, 3), (93, .iload_n 2, 1), (94, .iload_n 1, 1), (95, .isub, 1), (96, .aload_n 0, 1), (97, .getfield 19, 3), (100, .iload_n 2, 1), (101, .invokevirtual 101, 3), (104, .invokestatic 104, 3), (107, .ifCond .ne 9, 3), (110, .aload_n 0, 1), (111, .iconst 5, 1), (112, .iload_n 2, 1), (113, .invokevirtual 56, 3), (116, .iinc 2 1, 3), (119, .goto (-110), 3), (122, .return_, 1)]
set_option maxRecDepth 20000 in
theorem daX4_checkNamesAndNumbers : ∀ x ∈ tbX4_checkNamesAndNumbers, decode cX4_checkNamesAndNumbers x.1 = .ok x.2 := by decide +kernel
theorem dkX4_checkNamesAndNumbers {i pc n : Nat} {ins : Instr} (h : tbX4_checkNamesAndNumbers[i]? = some (pc, ins, n)) : decode cX4_checkNamesAndNumbers pc = .ok (ins, n) := daX4_checkNamesAndNumbers (pc, ins, n) (List.mem_of_getElem? h)
def fX4_checkNamesAndNumbers (S0 : qv_St) : Option qv_St :=
  qv_b (qv_si S0 7 2 0) fun S_1 =>
  qv_lp3 qv_N (fun self_1 (S_2 : qv_St) (x1_1 : Int32) (x2_1 : Int32) =>
    if (S_2.1 3 4) ≤ x2_1 then
      some S_2
    else
      if (S_2.1 7 8) = 0 then
        (fX9_kindAt S_2 x2_1).bind fun r_1 =>
        qv_j (fun (S_3 : qv_St) (x1_2 : Int32) =>
          self_1 S_3 x1_2 (x2_1 + 1)) fun K_1 =>
        if r_1 = 59 then
          qv_b ((x2_1 + 1) : Int32) fun x1_3 =>
          K_1 S_2 x1_3
        else
          qv_j (fun (S_4 : qv_St) =>
            if r_1 = 23 then
              (fX9_kindAt S_4 x1_1).bind fun r_2 =>
              (fX9_intAt S_4 x2_1).bind fun r_3 =>
              (fX4_fits r_2 (x2_1 - x1_1) r_3).bind fun r_4 =>
              if r_4 = 0 then
                (fX4_refuse S_4 5 x2_1).bind fun S_5 =>
                K_1 S_5 x1_1
              else
                K_1 S_4 x1_1
            else
              K_1 S_4 x1_1) fun K_2 =>
          if r_1 = 22 then
            (fX9_valueAt S_2 x2_1).bind fun r_5 =>
            qv_cm (fX4_isNewName S_2 r_5) fun S_6 r_6 =>
            if r_6 = 0 then
              (fX4_refuse S_6 3 x2_1).bind fun S_7 =>
              K_1 S_7 x1_1
            else
              K_2 S_6
          else
            K_2 S_2
      else
        some S_2) S_1 0 0
set_option maxRecDepth 20000 in
set_option maxHeartbeats 4000000 in
theorem wX4_checkNamesAndNumbers (G : qv_GT) (S0 : qv_St) : ∀ r, fX4_checkNamesAndNumbers S0 = some r → Cn G Lk yX4_checkNamesAndNumbers cX4_checkNamesAndNumbers 4 none 3 [.ref (G.2.2.1 7)] S0 (qe_u r) := by
  refine cn_of (own := RX4) (emb := qe_u) (lv := [(0, .ref (G.2.2.1 7))]) rfl rfl (Nat.le_of_ble_eq_true rfl) rfl (fun X => ?_)
  unfold fX4_checkNamesAndNumbers
  refine qr_aload_n (n := 1) 0 (dkX4_checkNamesAndNumbers (i := 0) rfl) rfl rfl ?_
  refine qr_iconst (n := 2) 0 (dkX4_checkNamesAndNumbers (i := 1) rfl) rfl (by decide) ?_
  refine qr_puti (n := 5) 7 2 (dkX4_checkNamesAndNumbers (i := 2) rfl) rfl lkO_7 rfl gnX4 (Nat.le_of_ble_eq_true rfl) kfX4_87 rfl tyX4_ok nmX4 rfl rfl (fun S_1 => ?_)
  refine qr_iconst (n := 6) 0 (dkX4_checkNamesAndNumbers (i := 3) rfl) rfl (by decide) ?_
  refine qr_istore_n (n := 7) (lv2 := [(0, .ref (G.2.2.1 7)), (1, .int 0)]) [1, 0] (dkX4_checkNamesAndNumbers (i := 4) rfl) rfl rfl (by decide) rfl ?_
  refine qr_iconst (n := 8) 0 (dkX4_checkNamesAndNumbers (i := 5) rfl) rfl (by decide) ?_
  refine qr_istore_n (n := 9) (lv2 := [(0, .ref (G.2.2.1 7)), (1, .int 0), (2, .int 0)]) [1, 2, 0] (dkX4_checkNamesAndNumbers (i := 6) rfl) rfl rfl (by decide) rfl ?_
  refine qr_lp3 (fun (S_2 : qv_St) (x1_1 : Int32) (x2_1 : Int32) => [(0, .ref (G.2.2.1 7)), (1, .int x1_1), (2, .int x2_1)]) (fun (S_2 : qv_St) (x1_1 : Int32) (x2_1 : Int32) => S_2) (fun self_1 hself_1 S_2 x1_1 x2_1 => ?_) qv_N S_1 0 0
  refine qr_iload_n (n := 10) 2 (dkX4_checkNamesAndNumbers (i := 7) rfl) rfl rfl ?_
  refine qr_aload_n (n := 11) 0 (dkX4_checkNamesAndNumbers (i := 8) rfl) rfl rfl ?_
  refine qr_geta (n := 14) 7 0 3 (dkX4_checkNamesAndNumbers (i := 9) rfl) rfl lkO_7 rfl gnX4 (Nat.le_of_ble_eq_true rfl) kfX4_19 rfl ?_
  refine qr_geti (n := 17) 3 4 (dkX4_checkNamesAndNumbers (i := 10) rfl) rfl lkO_3 rfl gnX9 (Nat.le_of_ble_eq_true rfl) kfX4_90 rfl ?_
  refine qr_icmp_ge (t := 122) (n := 20) (dkX4_checkNamesAndNumbers (i := 11) rfl) (by decide) rfl ?_ ?_
  · exact qr_vret (dkX4_checkNamesAndNumbers (i := 65) rfl) rfl rfl
  · refine qr_aload_n (n := 21) 0 (dkX4_checkNamesAndNumbers (i := 12) rfl) rfl rfl ?_
    refine qr_geti (n := 24) 7 8 (dkX4_checkNamesAndNumbers (i := 13) rfl) rfl lkO_7 rfl gnX4 (Nat.le_of_ble_eq_true rfl) kfX4_23 rfl ?_
    refine qr_if_ne (t := 122) (n := 27) (dkX4_checkNamesAndNumbers (i := 14) rfl) (by decide) rfl ?_ ?_
    · exact qr_vret (dkX4_checkNamesAndNumbers (i := 65) rfl) rfl rfl
    · refine qr_aload_n (n := 28) 0 (dkX4_checkNamesAndNumbers (i := 15) rfl) rfl rfl ?_
      refine qr_geta (n := 31) 7 0 3 (dkX4_checkNamesAndNumbers (i := 16) rfl) rfl lkO_7 rfl gnX4 (Nat.le_of_ble_eq_true rfl) kfX4_19 rfl ?_
      refine qr_iload_n (n := 32) 2 (dkX4_checkNamesAndNumbers (i := 17) rfl) rfl rfl ?_
      refine qr_cvi (n := 35) 3 [.int x2_1] (dkX4_checkNamesAndNumbers (i := 18) rfl) rfl kvX4_40 rfl rfl (Nat.le_of_ble_eq_true rfl) rfl rfl lkO_3 rfl (wX9_kindAt G S_2 x2_1) (fun r_1 => ?_)
      refine qr_istore_n (n := 36) (lv2 := [(0, .ref (G.2.2.1 7)), (1, .int x1_1), (2, .int x2_1), (3, .int r_1)]) [1, 2, 3, 0] (dkX4_checkNamesAndNumbers (i := 19) rfl) rfl rfl (by decide) rfl ?_
      refine qr_iload_n (n := 37) 3 (dkX4_checkNamesAndNumbers (i := 20) rfl) rfl rfl ?_
      refine qr_bipush (n := 39) 59 (dkX4_checkNamesAndNumbers (i := 21) rfl) rfl (by decide) ?_
      refine qr_j (fun K_1 : qv_St → Int32 → Option qv_St => ∀ (S_3 : qv_St) (x1_2 : Int32), VV G Lk X RX4 cX4_checkNamesAndNumbers 4 none 3 qe_u 116 [(0, .ref (G.2.2.1 7)), (1, .int x1_2), (2, .int x2_1)] [] S_3 (K_1 S_3 x1_2)) (fun S_3 x1_2 => ?_) (fun K_1 hK_1 => ?_)
      · refine qr_iinc (n := 119) (v := 1) (lv2 := [(0, .ref (G.2.2.1 7)), (1, .int x1_2), (2, .int (x2_1 + 1))]) 2 [1, 2, 0] (dkX4_checkNamesAndNumbers (i := 63) rfl) rfl rfl (by decide) (by decide) rfl ?_
        refine qr_goto (n := 9) (dkX4_checkNamesAndNumbers (i := 64) rfl) (by decide) ?_
        exact hself_1 S_3 x1_2 (x2_1 + 1)
      · refine qr_icmp_ne (t := 49) (n := 42) (dkX4_checkNamesAndNumbers (i := 22) rfl) (by decide) rfl ?_ ?_
        · refine qr_iload_n (n := 50) 3 (dkX4_checkNamesAndNumbers (i := 28) rfl) rfl rfl ?_
          refine qr_bipush (n := 52) 22 (dkX4_checkNamesAndNumbers (i := 29) rfl) rfl (by decide) ?_
          refine qr_j (fun K_2 : qv_St → Option qv_St => ∀ (S_4 : qv_St), VV G Lk X RX4 cX4_checkNamesAndNumbers 4 none 3 qe_u 79 [(0, .ref (G.2.2.1 7)), (1, .int x1_1), (2, .int x2_1), (3, .int r_1)] [] S_4 (K_2 S_4)) (fun S_4 => ?_) (fun K_2 hK_2 => ?_)
          · refine qr_iload_n (n := 80) 3 (dkX4_checkNamesAndNumbers (i := 43) rfl) rfl rfl ?_
            refine qr_bipush (n := 82) 23 (dkX4_checkNamesAndNumbers (i := 44) rfl) rfl (by decide) ?_
            refine qr_icmp_ne (t := 116) (n := 85) (dkX4_checkNamesAndNumbers (i := 45) rfl) (by decide) rfl ?_ ?_
            · refine qr_sub [0, 1, 2] rfl ?_
              exact hK_1 S_4 x1_1
            · refine qr_aload_n (n := 86) 0 (dkX4_checkNamesAndNumbers (i := 46) rfl) rfl rfl ?_
              refine qr_geta (n := 89) 7 0 3 (dkX4_checkNamesAndNumbers (i := 47) rfl) rfl lkO_7 rfl gnX4 (Nat.le_of_ble_eq_true rfl) kfX4_19 rfl ?_
              refine qr_iload_n (n := 90) 1 (dkX4_checkNamesAndNumbers (i := 48) rfl) rfl rfl ?_
              refine qr_cvi (n := 93) 3 [.int x1_1] (dkX4_checkNamesAndNumbers (i := 49) rfl) rfl kvX4_40 rfl rfl (Nat.le_of_ble_eq_true rfl) rfl rfl lkO_3 rfl (wX9_kindAt G S_4 x1_1) (fun r_2 => ?_)
              refine qr_iload_n (n := 94) 2 (dkX4_checkNamesAndNumbers (i := 50) rfl) rfl rfl ?_
              refine qr_iload_n (n := 95) 1 (dkX4_checkNamesAndNumbers (i := 51) rfl) rfl rfl ?_
              refine qr_isub (n := 96) (dkX4_checkNamesAndNumbers (i := 52) rfl) rfl ?_
              refine qr_aload_n (n := 97) 0 (dkX4_checkNamesAndNumbers (i := 53) rfl) rfl rfl ?_
              refine qr_geta (n := 100) 7 0 3 (dkX4_checkNamesAndNumbers (i := 54) rfl) rfl lkO_7 rfl gnX4 (Nat.le_of_ble_eq_true rfl) kfX4_19 rfl ?_
              refine qr_iload_n (n := 101) 2 (dkX4_checkNamesAndNumbers (i := 55) rfl) rfl rfl ?_
              refine qr_cvi (n := 104) 3 [.int x2_1] (dkX4_checkNamesAndNumbers (i := 56) rfl) rfl kvX4_101 rfl rfl (Nat.le_of_ble_eq_true rfl) rfl rfl lkO_3 rfl (wX9_intAt G S_4 x2_1) (fun r_3 => ?_)
              refine qr_csi (n := 107) [.int r_2, .int (x2_1 - x1_1), .int r_3] (dkX4_checkNamesAndNumbers (i := 57) rfl) rfl kvX4_104 rfl rfl (Nat.le_of_ble_eq_true rfl) rfl rfl (wX4_fits G S_4 r_2 (x2_1 - x1_1) r_3) (fun r_4 => ?_)
              refine qr_if_ne (t := 116) (n := 110) (dkX4_checkNamesAndNumbers (i := 58) rfl) (by decide) rfl ?_ ?_
              · refine qr_sub [0, 1, 2] rfl ?_
                exact hK_1 S_4 x1_1
              · refine qr_aload_n (n := 111) 0 (dkX4_checkNamesAndNumbers (i := 59) rfl) rfl rfl ?_
                refine qr_iconst (n := 112) 5 (dkX4_checkNamesAndNumbers (i := 60) rfl) rfl (by decide) ?_
                refine qr_iload_n (n := 113) 2 (dkX4_checkNamesAndNumbers (i := 61) rfl) rfl rfl ?_
                refine qr_cvu (n := 116) 7 [.int 5, .int x2_1] (dkX4_checkNamesAndNumbers (i := 62) rfl) rfl kvX4_56 rfl rfl (Nat.le_of_ble_eq_true rfl) rfl rfl lkO_7 rfl (wX4_refuse G S_4 5 x2_1) (fun S_5 => ?_)
                refine qr_sub [0, 1, 2] rfl ?_
                exact hK_1 S_5 x1_1
          · refine qr_icmp_ne (t := 79) (n := 55) (dkX4_checkNamesAndNumbers (i := 30) rfl) (by decide) rfl ?_ ?_
            · exact hK_2 S_2
            · refine qr_aload_n (n := 56) 0 (dkX4_checkNamesAndNumbers (i := 31) rfl) rfl rfl ?_
              refine qr_aload_n (n := 57) 0 (dkX4_checkNamesAndNumbers (i := 32) rfl) rfl rfl ?_
              refine qr_geta (n := 60) 7 0 3 (dkX4_checkNamesAndNumbers (i := 33) rfl) rfl lkO_7 rfl gnX4 (Nat.le_of_ble_eq_true rfl) kfX4_19 rfl ?_
              refine qr_iload_n (n := 61) 2 (dkX4_checkNamesAndNumbers (i := 34) rfl) rfl rfl ?_
              refine qr_cvl (n := 64) 3 [.int x2_1] (dkX4_checkNamesAndNumbers (i := 35) rfl) rfl kvX4_93 rfl rfl (Nat.le_of_ble_eq_true rfl) rfl rfl lkO_3 rfl (wX9_valueAt G S_2 x2_1) (fun r_5 => ?_)
              refine qr_cvm (n := 67) 7 [.long r_5] (dkX4_checkNamesAndNumbers (i := 36) rfl) rfl kvX4_97 rfl rfl (Nat.le_of_ble_eq_true rfl) rfl rfl lkO_7 rfl (wX4_isNewName G S_2 r_5) (fun S_6 r_6 => ?_)
              refine qr_if_ne (t := 79) (n := 70) (dkX4_checkNamesAndNumbers (i := 37) rfl) (by decide) rfl ?_ ?_
              · exact hK_2 S_6
              · refine qr_aload_n (n := 71) 0 (dkX4_checkNamesAndNumbers (i := 38) rfl) rfl rfl ?_
                refine qr_iconst (n := 72) 3 (dkX4_checkNamesAndNumbers (i := 39) rfl) rfl (by decide) ?_
                refine qr_iload_n (n := 73) 2 (dkX4_checkNamesAndNumbers (i := 40) rfl) rfl rfl ?_
                refine qr_cvu (n := 76) 7 [.int 3, .int x2_1] (dkX4_checkNamesAndNumbers (i := 41) rfl) rfl kvX4_56 rfl rfl (Nat.le_of_ble_eq_true rfl) rfl rfl lkO_7 rfl (wX4_refuse G S_6 3 x2_1) (fun S_7 => ?_)
                refine qr_goto (n := 116) (dkX4_checkNamesAndNumbers (i := 42) rfl) (by decide) ?_
                refine qr_sub [0, 1, 2] rfl ?_
                exact hK_1 S_7 x1_1
        · refine qr_iload_n (n := 43) 2 (dkX4_checkNamesAndNumbers (i := 23) rfl) rfl rfl ?_
          refine qr_iconst (n := 44) 1 (dkX4_checkNamesAndNumbers (i := 24) rfl) rfl (by decide) ?_
          refine qr_iadd (n := 45) (dkX4_checkNamesAndNumbers (i := 25) rfl) rfl ?_
          refine qr_b (α := Int32) (x2_1 + 1) (lvf := fun _ => [(0, .ref (G.2.2.1 7)), (1, .int x1_1), (2, .int x2_1), (3, .int r_1)]) (stf := fun z => .int z :: []) (Sf := fun _ => S_2) (fun x1_3 => ?_)
          refine qr_istore_n (n := 46) (lv2 := [(0, .ref (G.2.2.1 7)), (1, .int x1_3), (2, .int x2_1), (3, .int r_1)]) [1, 0, 2, 3] (dkX4_checkNamesAndNumbers (i := 26) rfl) rfl rfl (by decide) rfl ?_
          refine qr_goto (n := 116) (dkX4_checkNamesAndNumbers (i := 27) rfl) (by decide) ?_
          refine qr_sub [0, 1, 2] rfl ?_
          exact hK_1 S_2 x1_3
def tbX9_placeAt : List (Nat × Instr × Nat) := [(0, .iload_n 1, 1), (1, .ifCond .lt 20, 3), (4, .iload_n 1, 1), (5, .aload_n 0, 1), (6, .getfield 22, 3), (9, .if_icmp .ge 12, 3), (12, .aload_n 0, 1), (13, .getfield 15, 3), (16, .iload_n 1, 1), (17, .iaload, 1), (18, .goto 7, 3), (21, .aload_n 0, 1), (22, .getfield 31, 3), (25, .ireturn, 1)]
set_option maxRecDepth 20000 in
theorem daX9_placeAt : ∀ x ∈ tbX9_placeAt, decode cX9_placeAt x.1 = .ok x.2 := by decide +kernel
theorem dkX9_placeAt {i pc n : Nat} {ins : Instr} (h : tbX9_placeAt[i]? = some (pc, ins, n)) : decode cX9_placeAt pc = .ok (ins, n) := daX9_placeAt (pc, ins, n) (List.mem_of_getElem? h)
def fX9_placeAt (S0 : qv_St) (x1 : Int32) : Option Int32 :=
  qv_j (
    some (S0.1 3 3)) fun K_1 =>
  if x1 < 0 then
    K_1
  else
    if (S0.1 3 4) ≤ x1 then
      K_1
    else
      qv_ck x1 401 <|
      some (S0.1 5 (Int32.toNatClampNeg x1))
set_option maxRecDepth 20000 in
set_option maxHeartbeats 4000000 in
theorem wX9_placeAt (G : qv_GT) (S0 : qv_St) (x1 : Int32) : ∀ r, fX9_placeAt S0 x1 = some r → Cn G Lk yX9_placeAt cX9_placeAt 2 (some .int) 1 [.ref (G.2.2.1 3), .int x1] S0 ((qe_i S0) r) := by
  refine cn_of (own := RX9) (emb := (qe_i S0)) (lv := [(0, .ref (G.2.2.1 3)), (1, .int x1)]) rfl rfl (Nat.le_of_ble_eq_true rfl) rfl (fun X => ?_)
  unfold fX9_placeAt
  refine qr_iload_n (n := 1) 1 (dkX9_placeAt (i := 0) rfl) rfl rfl ?_
  refine qr_j (fun K_1 : Option Int32 => VV G Lk X RX9 cX9_placeAt 2 (some .int) 1 (qe_i S0) 21 [(0, .ref (G.2.2.1 3))] [] S0 (K_1)) (?_) (fun K_1 hK_1 => ?_)
  · refine qr_aload_n (n := 22) 0 (dkX9_placeAt (i := 11) rfl) rfl rfl ?_
    refine qr_geti (n := 25) 3 3 (dkX9_placeAt (i := 12) rfl) rfl lkO_3 rfl gnX9 (Nat.le_of_ble_eq_true rfl) kfX9_31 rfl ?_
    exact qr_iret (dkX9_placeAt (i := 13) rfl) rfl rfl
  · refine qr_if_lt (t := 21) (n := 4) (dkX9_placeAt (i := 1) rfl) (by decide) rfl ?_ ?_
    · refine qr_sub [0] rfl ?_
      exact hK_1
    · refine qr_iload_n (n := 5) 1 (dkX9_placeAt (i := 2) rfl) rfl rfl ?_
      refine qr_aload_n (n := 6) 0 (dkX9_placeAt (i := 3) rfl) rfl rfl ?_
      refine qr_geti (n := 9) 3 4 (dkX9_placeAt (i := 4) rfl) rfl lkO_3 rfl gnX9 (Nat.le_of_ble_eq_true rfl) kfX9_22 rfl ?_
      refine qr_icmp_ge (t := 21) (n := 12) (dkX9_placeAt (i := 5) rfl) (by decide) rfl ?_ ?_
      · refine qr_sub [0] rfl ?_
        exact hK_1
      · refine qr_aload_n (n := 13) 0 (dkX9_placeAt (i := 6) rfl) rfl rfl ?_
        refine qr_geta (n := 16) 3 1 5 (dkX9_placeAt (i := 7) rfl) rfl lkO_3 rfl gnX9 (Nat.le_of_ble_eq_true rfl) kfX9_15 rfl ?_
        refine qr_iload_n (n := 17) 1 (dkX9_placeAt (i := 8) rfl) rfl rfl ?_
        refine qr_iald (n := 18) 5 401 (dkX9_placeAt (i := 9) rfl) rfl lkA_5 ?_
        refine qr_goto (n := 25) (dkX9_placeAt (i := 10) rfl) (by decide) ?_
        exact qr_iret (dkX9_placeAt (i := 13) rfl) rfl rfl
