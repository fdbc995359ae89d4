def tbJ7_fill_53178 : List (Nat × Instr × Nat) := [(0, .iconst 0, 1), (1, .istore_n 2, 1), (2, .aload_n 0, 1), (3, .arraylength, 1), (4, .istore_n 3, 1), (5, .iload_n 2, 1), (6, .iload_n 3, 1), (7, .if_icmp .ge 13, 3), (10, .aload_n 0, 1), (11, .iload_n 2, 1), (12, .iload_n 1, 1), (13, .iastore, 1), (14, .iinc 2 1, 3), (17, .goto (-12), 3), (20, .return_, 1)]
set_option maxRecDepth 20000 in
theorem daJ7_fill_53178 : ∀ x ∈ tbJ7_fill_53178, decode cJ7_fill_53178 x.1 = .ok x.2 := by decide +kernel
theorem dkJ7_fill_53178 {i pc n : Nat} {ins : Instr} (h : tbJ7_fill_53178[i]? = some (pc, ins, n)) : decode cJ7_fill_53178 pc = .ok (ins, n) := daJ7_fill_53178 (pc, ins, n) (List.mem_of_getElem? h)
def fJ7_fill_53178 (S0 : qv_St) (v : Nat) (ln : Nat) (x1 : Int32) : Option qv_St :=
  qv_b ((Int32.ofNat ln) : Int32) fun x3_1 =>
  qv_lp2 qv_N (fun self_1 (S_1 : qv_St) (x2_1 : Int32) =>
    if x3_1 ≤ x2_1 then
      some S_1
    else
      qv_ck x2_1 ln <| qv_b (qv_si S_1 v (Int32.toNatClampNeg x2_1) x1) fun S_2 =>
      self_1 S_2 (x2_1 + 1)) S0 0
set_option maxRecDepth 20000 in
set_option maxHeartbeats 4000000 in
theorem wJ7_fill_53178 (G : qv_GT) (S0 : qv_St) (v : Nat) (ln : Nat) (x1 : Int32) (hv : Lk[v]? = some (.inr (0, ln, []))) : ∀ r, fJ7_fill_53178 S0 v ln x1 = some r → Cn G Lk yJ7_fill_53178 cJ7_fill_53178 4 none 1 [.ref (G.2.2.1 v), .int x1] S0 (qe_u r) := by
  refine cn_of (own := RJ7) (emb := qe_u) (lv := [(0, .ref (G.2.2.1 v)), (1, .int x1)]) rfl rfl (Nat.le_of_ble_eq_true rfl) rfl (fun X => ?_)
  unfold fJ7_fill_53178
  refine qr_iconst (n := 1) 0 (dkJ7_fill_53178 (i := 0) rfl) rfl (by decide) ?_
  refine qr_istore_n (n := 2) (lv2 := [(0, .ref (G.2.2.1 v)), (1, .int x1), (2, .int 0)]) [1, 2, 0] (dkJ7_fill_53178 (i := 1) rfl) rfl rfl (by decide) rfl ?_
  refine qr_aload_n (n := 3) 0 (dkJ7_fill_53178 (i := 2) rfl) rfl rfl ?_
  refine qr_alen (n := 4) v ln (Int32.ofNat ln) (dkJ7_fill_53178 (i := 3) rfl) rfl hv rfl ?_
  refine qr_b (α := Int32) (Int32.ofNat ln) (lvf := fun _ => [(0, .ref (G.2.2.1 v)), (1, .int x1), (2, .int 0)]) (stf := fun z => .int z :: []) (Sf := fun _ => S0) (fun x3_1 => ?_)
  refine qr_istore_n (n := 5) (lv2 := [(0, .ref (G.2.2.1 v)), (1, .int x1), (2, .int 0), (3, .int x3_1)]) [1, 2, 3, 0] (dkJ7_fill_53178 (i := 4) rfl) rfl rfl (by decide) rfl ?_
  refine qr_lp2 (fun (S_1 : qv_St) (x2_1 : Int32) => [(0, .ref (G.2.2.1 v)), (1, .int x1), (2, .int x2_1), (3, .int x3_1)]) (fun (S_1 : qv_St) (x2_1 : Int32) => S_1) (fun self_1 hself_1 S_1 x2_1 => ?_) qv_N S0 0
  refine qr_iload_n (n := 6) 2 (dkJ7_fill_53178 (i := 5) rfl) rfl rfl ?_
  refine qr_iload_n (n := 7) 3 (dkJ7_fill_53178 (i := 6) rfl) rfl rfl ?_
  refine qr_icmp_ge (t := 20) (n := 10) (dkJ7_fill_53178 (i := 7) rfl) (by decide) rfl ?_ ?_
  · exact qr_vret (dkJ7_fill_53178 (i := 14) rfl) rfl rfl
  · refine qr_aload_n (n := 11) 0 (dkJ7_fill_53178 (i := 8) rfl) rfl rfl ?_
    refine qr_iload_n (n := 12) 2 (dkJ7_fill_53178 (i := 9) rfl) rfl rfl ?_
    refine qr_iload_n (n := 13) 1 (dkJ7_fill_53178 (i := 10) rfl) rfl rfl ?_
    refine qr_iast (n := 14) v ln (dkJ7_fill_53178 (i := 11) rfl) rfl hv (fun S_2 => ?_)
    refine qr_iinc (n := 17) (v := 1) (lv2 := [(0, .ref (G.2.2.1 v)), (1, .int x1), (2, .int (x2_1 + 1)), (3, .int x3_1)]) 2 [1, 2, 0, 3] (dkJ7_fill_53178 (i := 12) rfl) rfl rfl (by decide) (by decide) rfl ?_
    refine qr_goto (n := 5) (dkJ7_fill_53178 (i := 13) rfl) (by decide) ?_
    exact hself_1 S_2 (x2_1 + 1)
def tbX0_tune : List (Nat × Instr × Nat) := [(0, .aload_n 0, 1), (1, .iload_n 1, 1), (2, .putfield 31, 3), (5, .aload_n 0, 1), (6, .getfield 21, 3), (9, .sipush (-1000), 3), (12, .invokestatic 35, 3), (15, .return_, 1)]
set_option maxRecDepth 20000 in
theorem daX0_tune : ∀ x ∈ tbX0_tune, decode cX0_tune x.1 = .ok x.2 := by decide +kernel
theorem dkX0_tune {i pc n : Nat} {ins : Instr} (h : tbX0_tune[i]? = some (pc, ins, n)) : decode cX0_tune pc = .ok (ins, n) := daX0_tune (pc, ins, n) (List.mem_of_getElem? h)
def fX0_tune (S0 : qv_St) (x1 : Int32) : Option qv_St :=
  qv_b (qv_si S0 254 6 x1) fun S_1 =>
  (fJ7_fill_53178 S_1 258 8 (-1000)).bind fun S_2 =>
  some S_2
set_option maxRecDepth 20000 in
set_option maxHeartbeats 4000000 in
theorem wX0_tune (G : qv_GT) (S0 : qv_St) (x1 : Int32) : ∀ r, fX0_tune S0 x1 = some r → Cn G Lk yX0_tune cX0_tune 2 none 2 [.ref (G.2.2.1 254), .int x1] S0 (qe_u r) := by
  refine cn_of (own := RX0) (emb := qe_u) (lv := [(0, .ref (G.2.2.1 254)), (1, .int x1)]) rfl rfl (Nat.le_of_ble_eq_true rfl) rfl (fun X => ?_)
  unfold fX0_tune
  refine qr_aload_n (n := 1) 0 (dkX0_tune (i := 0) rfl) rfl rfl ?_
  refine qr_iload_n (n := 2) 1 (dkX0_tune (i := 1) rfl) rfl rfl ?_
  refine qr_puti (n := 5) 254 6 (dkX0_tune (i := 2) rfl) rfl lkO_254 rfl gnX0 (Nat.le_of_ble_eq_true rfl) kfX0_31 rfl tyX0_ok nmX0 rfl rfl (fun S_1 => ?_)
  refine qr_aload_n (n := 6) 0 (dkX0_tune (i := 3) rfl) rfl rfl ?_
  refine qr_geta (n := 9) 254 4 258 (dkX0_tune (i := 4) rfl) rfl lkO_254 rfl gnX0 (Nat.le_of_ble_eq_true rfl) kfX0_21 rfl ?_
  refine qr_sipush (n := 12) (-1000) (dkX0_tune (i := 5) rfl) rfl (by decide) ?_
  refine qr_csu (n := 15) [.ref (G.2.2.1 258), .int (-1000)] (dkX0_tune (i := 6) rfl) rfl kvX0_35 rfl rfl (Nat.le_of_ble_eq_true rfl) rfl rfl (wJ7_fill_53178 G S_1 258 8 (-1000) lkA_258) (fun S_2 => ?_)
  exact qr_vret (dkX0_tune (i := 7) rfl) rfl rfl
def tbX0_lot : List (Nat × Instr × Nat) := [(0, .aload_n 0, 1), (1, .getfield 31, 3), (4, .istore_n 2, 1), (5, .iconst 0, 1), (6, .istore_n 3, 1), (7, .iload_n 3, 1), (8, .iconst 2, 1), (9, .if_icmp .ge 36, 3), (12, .iload_n 2, 1), (13, .iload_n 3, 1), (14, .ifCond .ne 8, 3), (17, .bipush 79, 2), (19, .goto 4, 3), (22, .iload_n 1, 1), (23, .ixor, 1), (24, .ldc 41, 2), (26, .imul, 1), (27, .sipush 12345, 3), (30, .iadd, 1), (31, .istore_n 2, 1), (32, .iload_n 2, 1), (33, .iload_n 2, 1), (34, .bipush 15, 2), (36, .iushr, 1), (37, .ixor, 1), (38, .istore_n 2, 1), (39, .iinc 3 1, 3), (42, .goto (-35), 3), (45, .iload_n 2, 1), (46, .iconst 1, 1), (47, .iushr, 1), (48, .bipush 100, 2), (50, .irem, 1), (51, .ireturn, 1)]
set_option maxRecDepth 20000 in
theorem daX0_lot : ∀ x ∈ tbX0_lot, decode cX0_lot x.1 = .ok x.2 := by decide +kernel
theorem dkX0_lot {i pc n : Nat} {ins : Instr} (h : tbX0_lot[i]? = some (pc, ins, n)) : decode cX0_lot pc = .ok (ins, n) := daX0_lot (pc, ins, n) (List.mem_of_getElem? h)
def fX0_lot (S0 : qv_St) (x1 : Int32) : Option Int32 :=
  qv_b ((S0.1 254 6) : Int32) fun x2_1 =>
  qv_j (fun (x2_2 : Int32) =>
    qv_nz 100 <|
    some ((Int32.toUInt32 x2_2 >>> (Int32.toUInt32 1 &&& Int32.toUInt32 31)).toInt32 - (Int32.toUInt32 x2_2 >>> (Int32.toUInt32 1 &&& Int32.toUInt32 31)).toInt32 / 100 * 100)) fun K_1 =>
  qv_lp2 qv_N (fun self_1 (x2_3 : Int32) (x3_1 : Int32) =>
    if 2 ≤ x3_1 then
      K_1 x2_3
    else
      qv_j (fun (t_1 : Int32) =>
        qv_b ((((x2_3 ^^^ t_1) * 1103515245) + 12345) : Int32) fun x2_4 =>
        qv_b ((x2_4 ^^^ (Int32.toUInt32 x2_4 >>> (Int32.toUInt32 15 &&& Int32.toUInt32 31)).toInt32) : Int32) fun x2_5 =>
        self_1 x2_5 (x3_1 + 1)) fun K_2 =>
      if x3_1 = 0 then
        K_2 79
      else
        K_2 x1) x2_1 0
set_option maxRecDepth 20000 in
set_option maxHeartbeats 4000000 in
theorem wX0_lot (G : qv_GT) (S0 : qv_St) (x1 : Int32) : ∀ r, fX0_lot S0 x1 = some r → Cn G Lk yX0_lot cX0_lot 4 (some .int) 1 [.ref (G.2.2.1 254), .int x1] S0 ((qe_i S0) r) := by
  refine cn_of (own := RX0) (emb := (qe_i S0)) (lv := [(0, .ref (G.2.2.1 254)), (1, .int x1)]) rfl rfl (Nat.le_of_ble_eq_true rfl) rfl (fun X => ?_)
  unfold fX0_lot
  refine qr_aload_n (n := 1) 0 (dkX0_lot (i := 0) rfl) rfl rfl ?_
  refine qr_geti (n := 4) 254 6 (dkX0_lot (i := 1) rfl) rfl lkO_254 rfl gnX0 (Nat.le_of_ble_eq_true rfl) kfX0_31 rfl ?_
  refine qr_b (α := Int32) (S0.1 254 6) (lvf := fun _ => [(0, .ref (G.2.2.1 254)), (1, .int x1)]) (stf := fun z => .int z :: []) (Sf := fun _ => S0) (fun x2_1 => ?_)
  refine qr_istore_n (n := 5) (lv2 := [(0, .ref (G.2.2.1 254)), (1, .int x1), (2, .int x2_1)]) [1, 2, 0] (dkX0_lot (i := 2) rfl) rfl rfl (by decide) rfl ?_
  refine qr_iconst (n := 6) 0 (dkX0_lot (i := 3) rfl) rfl (by decide) ?_
  refine qr_istore_n (n := 7) (lv2 := [(0, .ref (G.2.2.1 254)), (1, .int x1), (2, .int x2_1), (3, .int 0)]) [1, 2, 3, 0] (dkX0_lot (i := 4) rfl) rfl rfl (by decide) rfl ?_
  refine qr_sub [1, 2, 3] rfl ?_
  refine qr_j (fun K_1 : Int32 → Option Int32 => ∀ (x2_2 : Int32), VV G Lk X RX0 cX0_lot 4 (some .int) 1 (qe_i S0) 45 [(2, .int x2_2)] [] S0 (K_1 x2_2)) (fun x2_2 => ?_) (fun K_1 hK_1 => ?_)
  · refine qr_iload_n (n := 46) 0 (dkX0_lot (i := 28) rfl) rfl rfl ?_
    refine qr_iconst (n := 47) 1 (dkX0_lot (i := 29) rfl) rfl (by decide) ?_
    refine qr_iushr (n := 48) (dkX0_lot (i := 30) rfl) rfl ?_
    refine qr_bipush (n := 50) 100 (dkX0_lot (i := 31) rfl) rfl (by decide) ?_
    refine qr_irem (n := 51) (dkX0_lot (i := 32) rfl) rfl ?_
    exact qr_iret (dkX0_lot (i := 33) rfl) rfl rfl
  · refine qr_lp2 (fun (x2_3 : Int32) (x3_1 : Int32) => [(1, .int x1), (2, .int x2_3), (3, .int x3_1)]) (fun (x2_3 : Int32) (x3_1 : Int32) => S0) (fun self_1 hself_1 x2_3 x3_1 => ?_) qv_N x2_1 0
    refine qr_iload_n (n := 8) 2 (dkX0_lot (i := 5) rfl) rfl rfl ?_
    refine qr_iconst (n := 9) 2 (dkX0_lot (i := 6) rfl) rfl (by decide) ?_
    refine qr_icmp_ge (t := 45) (n := 12) (dkX0_lot (i := 7) rfl) (by decide) rfl ?_ ?_
    · refine qr_sub [1] rfl ?_
      exact hK_1 x2_3
    · refine qr_iload_n (n := 13) 1 (dkX0_lot (i := 8) rfl) rfl rfl ?_
      refine qr_iload_n (n := 14) 2 (dkX0_lot (i := 9) rfl) rfl rfl ?_
      refine qr_j (fun K_2 : Int32 → Option Int32 => ∀ (t_1 : Int32), VV G Lk X RX0 cX0_lot 4 (some .int) 1 (qe_i S0) 23 [(1, .int x1), (3, .int x3_1)] [.int t_1, .int x2_3] S0 (K_2 t_1)) (fun t_1 => ?_) (fun K_2 hK_2 => ?_)
      · refine qr_ixor (n := 24) (dkX0_lot (i := 14) rfl) rfl ?_
        refine qr_ldc (n := 26) 1103515245 (dkX0_lot (i := 15) rfl) rfl kcX0_41 ?_
        refine qr_imul (n := 27) (dkX0_lot (i := 16) rfl) rfl ?_
        refine qr_sipush (n := 30) 12345 (dkX0_lot (i := 17) rfl) rfl (by decide) ?_
        refine qr_iadd (n := 31) (dkX0_lot (i := 18) rfl) rfl ?_
        refine qr_b (α := Int32) (((x2_3 ^^^ t_1) * 1103515245) + 12345) (lvf := fun _ => [(1, .int x1), (3, .int x3_1)]) (stf := fun z => .int z :: []) (Sf := fun _ => S0) (fun x2_4 => ?_)
        refine qr_istore_n (n := 32) (lv2 := [(1, .int x1), (2, .int x2_4), (3, .int x3_1)]) [1, 0, 2] (dkX0_lot (i := 19) rfl) rfl rfl (by decide) rfl ?_
        refine qr_iload_n (n := 33) 1 (dkX0_lot (i := 20) rfl) rfl rfl ?_
        refine qr_iload_n (n := 34) 1 (dkX0_lot (i := 21) rfl) rfl rfl ?_
        refine qr_bipush (n := 36) 15 (dkX0_lot (i := 22) rfl) rfl (by decide) ?_
        refine qr_iushr (n := 37) (dkX0_lot (i := 23) rfl) rfl ?_
        refine qr_ixor (n := 38) (dkX0_lot (i := 24) rfl) rfl ?_
        refine qr_b (α := Int32) (x2_4 ^^^ (Int32.toUInt32 x2_4 >>> (Int32.toUInt32 15 &&& Int32.toUInt32 31)).toInt32) (lvf := fun _ => [(1, .int x1), (2, .int x2_4), (3, .int x3_1)]) (stf := fun z => .int z :: []) (Sf := fun _ => S0) (fun x2_5 => ?_)
        refine qr_istore_n (n := 39) (lv2 := [(1, .int x1), (2, .int x2_5), (3, .int x3_1)]) [1, 0, 2] (dkX0_lot (i := 25) rfl) rfl rfl (by decide) rfl ?_
        refine qr_iinc (n := 42) (v := 1) (lv2 := [(1, .int x1), (2, .int x2_5), (3, .int (x3_1 + 1))]) 2 [1, 2, 0] (dkX0_lot (i := 26) rfl) rfl rfl (by decide) (by decide) rfl ?_
        refine qr_goto (n := 7) (dkX0_lot (i := 27) rfl) (by decide) ?_
        exact hself_1 x2_5 (x3_1 + 1)
      · refine qr_if_ne (t := 22) (n := 17) (dkX0_lot (i := 10) rfl) (by decide) rfl ?_ ?_
        · refine qr_iload_n (n := 23) 0 (dkX0_lot (i := 13) rfl) rfl rfl ?_
          refine qr_sub [0, 2] rfl ?_
          exact hK_2 x1
        · refine qr_bipush (n := 19) 79 (dkX0_lot (i := 11) rfl) rfl (by decide) ?_
          refine qr_goto (n := 23) (dkX0_lot (i := 12) rfl) (by decide) ?_
          refine qr_sub [0, 2] rfl ?_
          exact hK_2 79
def tbX0_latestBegin : List (Nat × Instr × Nat) := [(0, .aload_n 0, 1), (1, .getfield 21, 3), (4, .iload_n 1, 1), (5, .iaload, 1), (6, .iload_n 2, 1), (7, .if_icmp .ne 10, 3), (10, .aload_n 0, 1), (11, .getfield 24, 3), (14, .iload_n 1, 1), (15, .iaload, 1), (16, .ireturn, 1), (17, .aload_n 0, 1), (18, .getfield 21, 3), (21, .iload_n 1, 1), (22, .iaload, 1), (23, .iload_n 2, 1), (24, .iconst 1, 1), (25, .isub, 1), (26, .if_icmp .ne 7, 3), (29, .iconst 1, 1), (30, .goto 4, 3), (33, .iconst 0, 1), (34, .istore_n 3, 1), (35, .iload_n 3, 1), (36, .ifCond .eq 7, 3), (39, .iload_n 2, 1), (40, .goto 20, 3), (43, .iconst 0, 1), (44, .iload_n 2, 1), (45, .aload_n 0, 1), (46, .getfield 27, 3), (49, .getfield 58, 3), (52, .iload_n 1, 1), (53, .iaload, 1), (54, .isub, 1), (55, .iconst 1, 1), (56, .iadd, 1), (57, .invokestatic 61, 3), (60, .istore 4, 2), (62, .iload_n 3, 1), (63, .ifCond .eq 12, 3), (66, .aload_n 0, 1), (67, .getfield 24, 3), (70, .iload_n 1, 1), (71, .iaload, 1), (72, .goto 6, 3), (75, .sipush (-1000), 3), (78, .istore 5, 2), (80, .iload_n 2, 1), (81, .istore 6, 2), (83, .iload 6, 2), (85, .iload 4, 2), (87, .if_icmp .lt 39, 3), (90, .aload_n 0, 1), (91, .bipush 8, 2), (93, .iload 6, 2), (95, .imul, 1), (96, .iload_n 1, 1), (97, .iadd, 1), (98, .invokevirtual 66, 3), (101, .aload_n 0, 1), (102, .getfield 27, 3), (105, .getfield 55, 3), (108, .iload_n 1, 1), (109, .iaload, 1), (110, .if_icmp .ge 10, 3), (113, .iload 6, 2), (115, .istore 5, 2), (117, .goto 9, 3), (120, .iinc 6 (-1), 3), (123, .goto (-40), 3), (126, .aload_n 0, 1), (127, .getfield 21, 3), (130, .iload_n 1, 1), (131, .iload_n 2, 1), (132, .iastore, 1), (133, .aload_n 0, 1), (134, .getfield 24, 3), (137, .iload_n 1, 1), (138, .iload 5, 2), (140, .iastore, 1), (141, .iload 5, 2), (143, .ireturn, 1)]
set_option maxRecDepth 20000 in
theorem daX0_latestBegin : ∀ x ∈ tbX0_latestBegin, decode cX0_latestBegin x.1 = .ok x.2 := by decide +kernel
theorem dkX0_latestBegin {i pc n : Nat} {ins : Instr} (h : tbX0_latestBegin[i]? = some (pc, ins, n)) : decode cX0_latestBegin pc = .ok (ins, n) := daX0_latestBegin (pc, ins, n) (List.mem_of_getElem? h)
def fX0_latestBegin (S0 : qv_St) (x1 : Int32) (x2 : Int32) : Option (qv_St × Int32) :=
  qv_ck x1 8 <|
  if (S0.1 258 (Int32.toNatClampNeg x1)) = x2 then
    qv_ck x1 8 <|
    some (S0, (S0.1 259 (Int32.toNatClampNeg x1)))
  else
    qv_ck x1 8 <|
    qv_j (fun (t_1 : Int32) =>
      qv_j (fun (t_2 : Int32) =>
        qv_j (fun (t_3 : Int32) =>
          qv_j (fun (x5_1 : Int32) =>
            qv_ck x1 8 <| qv_b (qv_si S0 258 (Int32.toNatClampNeg x1) x2) fun S_1 =>
            qv_ck x1 8 <| qv_b (qv_si S_1 259 (Int32.toNatClampNeg x1) x5_1) fun S_2 =>
            some (S_2, x5_1)) fun K_4 =>
          qv_j (fun (x6_1 : Int32) =>
            K_4 x6_1) fun K_5 =>
          qv_lp1 qv_N (fun self_1 (x6_2 : Int32) =>
            if x6_2 < t_2 then
              K_4 t_3
            else
              (fX0_lot S0 ((8 * x6_2) + x1)).bind fun r_1 =>
              qv_ck x1 8 <|
              if (S0.1 12 (Int32.toNatClampNeg x1)) ≤ r_1 then
                self_1 (x6_2 + (-1))
              else
                K_5 x6_2) x2) fun K_3 =>
        if t_1 = 0 then
          K_3 (-1000)
        else
          qv_ck x1 8 <|
          K_3 (S0.1 259 (Int32.toNatClampNeg x1))) fun K_2 =>
      if t_1 = 0 then
        qv_ck x1 8 <|
        K_2 (qv_mx 0 ((x2 - (S0.1 13 (Int32.toNatClampNeg x1))) + 1))
      else
        K_2 x2) fun K_1 =>
    if (S0.1 258 (Int32.toNatClampNeg x1)) = (x2 - 1) then
      K_1 1
    else
      K_1 0
set_option maxRecDepth 20000 in
set_option maxHeartbeats 4000000 in
theorem wX0_latestBegin (G : qv_GT) (S0 : qv_St) (x1 : Int32) (x2 : Int32) : ∀ r, fX0_latestBegin S0 x1 x2 = some r → Cn G Lk yX0_latestBegin cX0_latestBegin 7 (some .int) 2 [.ref (G.2.2.1 254), .int x1, .int x2] S0 (qe_m r) := by
  refine cn_of (own := RX0) (emb := qe_m) (lv := [(0, .ref (G.2.2.1 254)), (1, .int x1), (2, .int x2)]) rfl rfl (Nat.le_of_ble_eq_true rfl) rfl (fun X => ?_)
  unfold fX0_latestBegin
  refine qr_aload_n (n := 1) 0 (dkX0_latestBegin (i := 0) rfl) rfl rfl ?_
  refine qr_geta (n := 4) 254 4 258 (dkX0_latestBegin (i := 1) rfl) rfl lkO_254 rfl gnX0 (Nat.le_of_ble_eq_true rfl) kfX0_21 rfl ?_
  refine qr_iload_n (n := 5) 1 (dkX0_latestBegin (i := 2) rfl) rfl rfl ?_
  refine qr_iald (n := 6) 258 8 (dkX0_latestBegin (i := 3) rfl) rfl lkA_258 ?_
  refine qr_iload_n (n := 7) 2 (dkX0_latestBegin (i := 4) rfl) rfl rfl ?_
  refine qr_icmp_ne (t := 17) (n := 10) (dkX0_latestBegin (i := 5) rfl) (by decide) rfl ?_ ?_
  · refine qr_aload_n (n := 18) 0 (dkX0_latestBegin (i := 11) rfl) rfl rfl ?_
    refine qr_geta (n := 21) 254 4 258 (dkX0_latestBegin (i := 12) rfl) rfl lkO_254 rfl gnX0 (Nat.le_of_ble_eq_true rfl) kfX0_21 rfl ?_
    refine qr_iload_n (n := 22) 1 (dkX0_latestBegin (i := 13) rfl) rfl rfl ?_
    refine qr_iald (n := 23) 258 8 (dkX0_latestBegin (i := 14) rfl) rfl lkA_258 ?_
    refine qr_iload_n (n := 24) 2 (dkX0_latestBegin (i := 15) rfl) rfl rfl ?_
    refine qr_iconst (n := 25) 1 (dkX0_latestBegin (i := 16) rfl) rfl (by decide) ?_
    refine qr_isub (n := 26) (dkX0_latestBegin (i := 17) rfl) rfl ?_
    refine qr_j (fun K_1 : Int32 → Option (qv_St × Int32) => ∀ (t_1 : Int32), VV G Lk X RX0 cX0_latestBegin 7 (some .int) 2 qe_m 34 [(0, .ref (G.2.2.1 254)), (1, .int x1), (2, .int x2)] [.int t_1] S0 (K_1 t_1)) (fun t_1 => ?_) (fun K_1 hK_1 => ?_)
    · refine qr_istore_n (n := 35) (lv2 := [(0, .ref (G.2.2.1 254)), (1, .int x1), (2, .int x2), (3, .int t_1)]) [1, 2, 3, 0] (dkX0_latestBegin (i := 22) rfl) rfl rfl (by decide) rfl ?_
      refine qr_iload_n (n := 36) 3 (dkX0_latestBegin (i := 23) rfl) rfl rfl ?_
      refine qr_j (fun K_2 : Int32 → Option (qv_St × Int32) => ∀ (t_2 : Int32), VV G Lk X RX0 cX0_latestBegin 7 (some .int) 2 qe_m 60 [(0, .ref (G.2.2.1 254)), (1, .int x1), (2, .int x2), (3, .int t_1)] [.int t_2] S0 (K_2 t_2)) (fun t_2 => ?_) (fun K_2 hK_2 => ?_)
      · refine qr_istore (n := 62) (lv2 := [(0, .ref (G.2.2.1 254)), (1, .int x1), (2, .int x2), (3, .int t_1), (4, .int t_2)]) [1, 2, 3, 4, 0] (dkX0_latestBegin (i := 38) rfl) rfl (by decide) rfl ?_
        refine qr_iload_n (n := 63) 3 (dkX0_latestBegin (i := 39) rfl) rfl rfl ?_
        refine qr_j (fun K_3 : Int32 → Option (qv_St × Int32) => ∀ (t_3 : Int32), VV G Lk X RX0 cX0_latestBegin 7 (some .int) 2 qe_m 78 [(0, .ref (G.2.2.1 254)), (1, .int x1), (2, .int x2), (4, .int t_2)] [.int t_3] S0 (K_3 t_3)) (fun t_3 => ?_) (fun K_3 hK_3 => ?_)
        · refine qr_istore (n := 80) (lv2 := [(0, .ref (G.2.2.1 254)), (1, .int x1), (2, .int x2), (4, .int t_2), (5, .int t_3)]) [1, 2, 3, 4, 0] (dkX0_latestBegin (i := 47) rfl) rfl (by decide) rfl ?_
          refine qr_iload_n (n := 81) 2 (dkX0_latestBegin (i := 48) rfl) rfl rfl ?_
          refine qr_istore (n := 83) (lv2 := [(0, .ref (G.2.2.1 254)), (1, .int x1), (2, .int x2), (4, .int t_2), (5, .int t_3), (6, .int x2)]) [1, 2, 3, 4, 5, 0] (dkX0_latestBegin (i := 49) rfl) rfl (by decide) rfl ?_
          refine qr_j (fun K_4 : Int32 → Option (qv_St × Int32) => ∀ (x5_1 : Int32), VV G Lk X RX0 cX0_latestBegin 7 (some .int) 2 qe_m 126 [(0, .ref (G.2.2.1 254)), (1, .int x1), (2, .int x2), (5, .int x5_1)] [] S0 (K_4 x5_1)) (fun x5_1 => ?_) (fun K_4 hK_4 => ?_)
          · refine qr_aload_n (n := 127) 0 (dkX0_latestBegin (i := 71) rfl) rfl rfl ?_
            refine qr_geta (n := 130) 254 4 258 (dkX0_latestBegin (i := 72) rfl) rfl lkO_254 rfl gnX0 (Nat.le_of_ble_eq_true rfl) kfX0_21 rfl ?_
            refine qr_iload_n (n := 131) 1 (dkX0_latestBegin (i := 73) rfl) rfl rfl ?_
            refine qr_iload_n (n := 132) 2 (dkX0_latestBegin (i := 74) rfl) rfl rfl ?_
            refine qr_iast (n := 133) 258 8 (dkX0_latestBegin (i := 75) rfl) rfl lkA_258 (fun S_1 => ?_)
            refine qr_aload_n (n := 134) 0 (dkX0_latestBegin (i := 76) rfl) rfl rfl ?_
            refine qr_geta (n := 137) 254 5 259 (dkX0_latestBegin (i := 77) rfl) rfl lkO_254 rfl gnX0 (Nat.le_of_ble_eq_true rfl) kfX0_24 rfl ?_
            refine qr_iload_n (n := 138) 1 (dkX0_latestBegin (i := 78) rfl) rfl rfl ?_
            refine qr_iload (n := 140) 3 (dkX0_latestBegin (i := 79) rfl) rfl rfl ?_
            refine qr_iast (n := 141) 259 8 (dkX0_latestBegin (i := 80) rfl) rfl lkA_259 (fun S_2 => ?_)
            refine qr_iload (n := 143) 3 (dkX0_latestBegin (i := 81) rfl) rfl rfl ?_
            exact qr_iret (dkX0_latestBegin (i := 82) rfl) rfl rfl
          · refine qr_j (fun K_5 : Int32 → Option (qv_St × Int32) => ∀ (x6_1 : Int32), VV G Lk X RX0 cX0_latestBegin 7 (some .int) 2 qe_m 113 [(0, .ref (G.2.2.1 254)), (1, .int x1), (2, .int x2), (6, .int x6_1)] [] S0 (K_5 x6_1)) (fun x6_1 => ?_) (fun K_5 hK_5 => ?_)
            · refine qr_iload (n := 115) 3 (dkX0_latestBegin (i := 66) rfl) rfl rfl ?_
              refine qr_istore (n := 117) (lv2 := [(0, .ref (G.2.2.1 254)), (1, .int x1), (2, .int x2), (5, .int x6_1), (6, .int x6_1)]) [1, 2, 3, 0, 4] (dkX0_latestBegin (i := 67) rfl) rfl (by decide) rfl ?_
              refine qr_goto (n := 126) (dkX0_latestBegin (i := 68) rfl) (by decide) ?_
              refine qr_sub [0, 1, 2, 3] rfl ?_
              exact hK_4 x6_1
            · refine qr_lp1 (fun (x6_2 : Int32) => [(0, .ref (G.2.2.1 254)), (1, .int x1), (2, .int x2), (4, .int t_2), (5, .int t_3), (6, .int x6_2)]) (fun (x6_2 : Int32) => S0) (fun self_1 hself_1 x6_2 => ?_) qv_N x2
              refine qr_iload (n := 85) 5 (dkX0_latestBegin (i := 50) rfl) rfl rfl ?_
              refine qr_iload (n := 87) 3 (dkX0_latestBegin (i := 51) rfl) rfl rfl ?_
              refine qr_icmp_lt (t := 126) (n := 90) (dkX0_latestBegin (i := 52) rfl) (by decide) rfl ?_ ?_
              · refine qr_sub [0, 1, 2, 4] rfl ?_
                exact hK_4 t_3
              · refine qr_aload_n (n := 91) 0 (dkX0_latestBegin (i := 53) rfl) rfl rfl ?_
                refine qr_bipush (n := 93) 8 (dkX0_latestBegin (i := 54) rfl) rfl (by decide) ?_
                refine qr_iload (n := 95) 5 (dkX0_latestBegin (i := 55) rfl) rfl rfl ?_
                refine qr_imul (n := 96) (dkX0_latestBegin (i := 56) rfl) rfl ?_
                refine qr_iload_n (n := 97) 1 (dkX0_latestBegin (i := 57) rfl) rfl rfl ?_
                refine qr_iadd (n := 98) (dkX0_latestBegin (i := 58) rfl) rfl ?_
                refine qr_cvi (n := 101) 254 [.int ((8 * x6_2) + x1)] (dkX0_latestBegin (i := 59) rfl) rfl kvX0_66 rfl rfl (Nat.le_of_ble_eq_true rfl) rfl rfl lkO_254 rfl (wX0_lot G S0 ((8 * x6_2) + x1)) (fun r_1 => ?_)
                refine qr_aload_n (n := 102) 0 (dkX0_latestBegin (i := 60) rfl) rfl rfl ?_
                refine qr_geta (n := 105) 254 0 9 (dkX0_latestBegin (i := 61) rfl) rfl lkO_254 rfl gnX0 (Nat.le_of_ble_eq_true rfl) kfX0_27 rfl ?_
                refine qr_geta (n := 108) 9 5 12 (dkX0_latestBegin (i := 62) rfl) rfl lkO_9 rfl gnX5 (Nat.le_of_ble_eq_true rfl) kfX0_55 rfl ?_
                refine qr_iload_n (n := 109) 1 (dkX0_latestBegin (i := 63) rfl) rfl rfl ?_
                refine qr_iald (n := 110) 12 8 (dkX0_latestBegin (i := 64) rfl) rfl lkA_12 ?_
                refine qr_icmp_ge (t := 120) (n := 113) (dkX0_latestBegin (i := 65) rfl) (by decide) rfl ?_ ?_
                · refine qr_iinc (n := 123) (v := (-1)) (lv2 := [(0, .ref (G.2.2.1 254)), (1, .int x1), (2, .int x2), (4, .int t_2), (5, .int t_3), (6, .int (x6_2 + (-1)))]) 5 [1, 2, 3, 4, 5, 0] (dkX0_latestBegin (i := 69) rfl) rfl rfl (by decide) (by decide) rfl ?_
                  refine qr_goto (n := 83) (dkX0_latestBegin (i := 70) rfl) (by decide) ?_
                  exact hself_1 (x6_2 + (-1))
                · refine qr_sub [0, 1, 2, 5] rfl ?_
                  exact hK_5 x6_2
        · refine qr_if_eq (t := 75) (n := 66) (dkX0_latestBegin (i := 40) rfl) (by decide) rfl ?_ ?_
          · refine qr_sipush (n := 78) (-1000) (dkX0_latestBegin (i := 46) rfl) rfl (by decide) ?_
            refine qr_sub [0, 1, 2, 4] rfl ?_
            exact hK_3 (-1000)
          · refine qr_aload_n (n := 67) 0 (dkX0_latestBegin (i := 41) rfl) rfl rfl ?_
            refine qr_geta (n := 70) 254 5 259 (dkX0_latestBegin (i := 42) rfl) rfl lkO_254 rfl gnX0 (Nat.le_of_ble_eq_true rfl) kfX0_24 rfl ?_
            refine qr_iload_n (n := 71) 1 (dkX0_latestBegin (i := 43) rfl) rfl rfl ?_
            refine qr_iald (n := 72) 259 8 (dkX0_latestBegin (i := 44) rfl) rfl lkA_259 ?_
            refine qr_goto (n := 78) (dkX0_latestBegin (i := 45) rfl) (by decide) ?_
            refine qr_sub [0, 1, 2, 4] rfl ?_
            exact hK_3 (S0.1 259 (Int32.toNatClampNeg x1))
      · refine qr_if_eq (t := 43) (n := 39) (dkX0_latestBegin (i := 24) rfl) (by decide) rfl ?_ ?_
        · refine qr_iconst (n := 44) 0 (dkX0_latestBegin (i := 27) rfl) rfl (by decide) ?_
          refine qr_iload_n (n := 45) 2 (dkX0_latestBegin (i := 28) rfl) rfl rfl ?_
          refine qr_aload_n (n := 46) 0 (dkX0_latestBegin (i := 29) rfl) rfl rfl ?_
          refine qr_geta (n := 49) 254 0 9 (dkX0_latestBegin (i := 30) rfl) rfl lkO_254 rfl gnX0 (Nat.le_of_ble_eq_true rfl) kfX0_27 rfl ?_
          refine qr_geta (n := 52) 9 6 13 (dkX0_latestBegin (i := 31) rfl) rfl lkO_9 rfl gnX5 (Nat.le_of_ble_eq_true rfl) kfX0_58 rfl ?_
          refine qr_iload_n (n := 53) 1 (dkX0_latestBegin (i := 32) rfl) rfl rfl ?_
          refine qr_iald (n := 54) 13 8 (dkX0_latestBegin (i := 33) rfl) rfl lkA_13 ?_
          refine qr_isub (n := 55) (dkX0_latestBegin (i := 34) rfl) rfl ?_
          refine qr_iconst (n := 56) 1 (dkX0_latestBegin (i := 35) rfl) rfl (by decide) ?_
          refine qr_iadd (n := 57) (dkX0_latestBegin (i := 36) rfl) rfl ?_
          refine qr_max (n := 60) (dkX0_latestBegin (i := 37) rfl) rfl kmX0_61 kmhmax1 kmh2 kmhmax3 rfl (Nat.le_of_ble_eq_true rfl) ?_
          exact hK_2 (qv_mx 0 ((x2 - (S0.1 13 (Int32.toNatClampNeg x1))) + 1))
        · refine qr_iload_n (n := 40) 2 (dkX0_latestBegin (i := 25) rfl) rfl rfl ?_
          refine qr_goto (n := 60) (dkX0_latestBegin (i := 26) rfl) (by decide) ?_
          exact hK_2 x2
    · refine qr_icmp_ne (t := 33) (n := 29) (dkX0_latestBegin (i := 18) rfl) (by decide) rfl ?_ ?_
      · refine qr_iconst (n := 34) 0 (dkX0_latestBegin (i := 21) rfl) rfl (by decide) ?_
        exact hK_1 0
      · refine qr_iconst (n := 30) 1 (dkX0_latestBegin (i := 19) rfl) rfl (by decide) ?_
        refine qr_goto (n := 34) (dkX0_latestBegin (i := 20) rfl) (by decide) ?_
        exact hK_1 1
  · refine qr_aload_n (n := 11) 0 (dkX0_latestBegin (i := 6) rfl) rfl rfl ?_
    refine qr_geta (n := 14) 254 5 259 (dkX0_latestBegin (i := 7) rfl) rfl lkO_254 rfl gnX0 (Nat.le_of_ble_eq_true rfl) kfX0_24 rfl ?_
    refine qr_iload_n (n := 15) 1 (dkX0_latestBegin (i := 8) rfl) rfl rfl ?_
    refine qr_iald (n := 16) 259 8 (dkX0_latestBegin (i := 9) rfl) rfl lkA_259 ?_
    exact qr_iret (dkX0_latestBegin (i := 10) rfl) rfl rfl
def tbX0_ageOf : List (Nat × Instr × Nat) := [(0, .iload_n 3, 1), (1, .iload_n 2, 1), (2, .if_icmp .le 6, 3), (5, .bipush (-2), 2), (7, .ireturn, 1), (8, .iload_n 2, 1), (9, .aload_n 0, 1), (10, .getfield 27, 3), (13, .getfield 42, 3), (16, .iload_n 1, 1), (17, .baload, 1), (18, .ifCond .eq 15, 3), (21, .aload_n 0, 1), (22, .getfield 27, 3), (25, .getfield 48, 3), (28, .iload_n 1, 1), (29, .iaload, 1), (30, .goto 9, 3), (33, .aload_n 0, 1), (34, .iload_n 1, 1), (35, .iload_n 2, 1), (36, .invokevirtual 51, 3), (39, .isub, 1), (40, .istore 4, 2), (42, .iload 4, 2), (44, .ifCond .ge 6, 3), (47, .bipush (-2), 2), (49, .ireturn, 1), (50, .aload_n 0, 1), (51, .getfield 27, 3), (54, .getfield 55, 3), (57, .iload_n 1, 1), (58, .iaload, 1), (59, .istore 5, 2), (61, .aload_n 0, 1), (62, .getfield 27, 3), (65, .getfield 42, 3), (68, .iload_n 1, 1), (69, .baload, 1), (70, .ifCond .eq 16, 3), (73, .iload 5, 2), (75, .ifCond .le 11, 3), (78, .iload 4, 2), (80, .iload 5, 2), (82, .irem, 1), (83, .goto 5, 3), (86, .iload 4, 2), (88, .istore 6, 2), (90, .iload 6, 2), (92, .aload_n 0, 1), (93, .getfield 27, 3), (96, .getfield 58, 3), (99, .iload_n 1, 1), (100, .iaload, 1), (101, .if_icmp .ge 8, 3), (104, .iload 6, 2), (106, .goto 5, 3), (109, .bipush (-2), 2), (111, .ireturn, 1)]
set_option maxRecDepth 20000 in
theorem daX0_ageOf : ∀ x ∈ tbX0_ageOf, decode cX0_ageOf x.1 = .ok x.2 := by decide +kernel
theorem dkX0_ageOf {i pc n : Nat} {ins : Instr} (h : tbX0_ageOf[i]? = some (pc, ins, n)) : decode cX0_ageOf pc = .ok (ins, n) := daX0_ageOf (pc, ins, n) (List.mem_of_getElem? h)
def fX0_ageOf (S0 : qv_St) (x1 : Int32) (x2 : Int32) (x3 : Int32) : Option (qv_St × Int32) :=
  if x3 ≤ x2 then
    qv_ck x1 8 <|
    qv_j (fun (S_1 : qv_St) (t_1 : Int32) =>
      qv_b ((x2 - t_1) : Int32) fun x4_1 =>
      if 0 ≤ x4_1 then
        qv_ck x1 8 <|
        qv_b ((S_1.1 12 (Int32.toNatClampNeg x1)) : Int32) fun x5_1 =>
        qv_ck x1 8 <|
        qv_j (fun (t_2 : Int32) =>
          qv_ck x1 8 <|
          if (S_1.1 13 (Int32.toNatClampNeg x1)) ≤ t_2 then
            some (S_1, (-2))
          else
            some (S_1, t_2)) fun K_2 =>
        qv_j (
          K_2 x4_1) fun K_3 =>
        if (S_1.1 10 (Int32.toNatClampNeg x1)) = 0 then
          K_3
        else
          if x5_1 ≤ 0 then
            K_3
          else
            qv_nz x5_1 <|
            K_2 (x4_1 - x4_1 / x5_1 * x5_1)
      else
        some (S_1, (-2))) fun K_1 =>
    if (S0.1 10 (Int32.toNatClampNeg x1)) = 0 then
      qv_cm (fX0_latestBegin S0 x1 x2) fun S_2 r_1 =>
      K_1 S_2 r_1
    else
      qv_ck x1 8 <|
      K_1 S0 (S0.1 11 (Int32.toNatClampNeg x1))
  else
    some (S0, (-2))
set_option maxRecDepth 20000 in
set_option maxHeartbeats 4000000 in
theorem wX0_ageOf (G : qv_GT) (S0 : qv_St) (x1 : Int32) (x2 : Int32) (x3 : Int32) : ∀ r, fX0_ageOf S0 x1 x2 x3 = some r → Cn G Lk yX0_ageOf cX0_ageOf 7 (some .int) 3 [.ref (G.2.2.1 254), .int x1, .int x2, .int x3] S0 (qe_m r) := by
  refine cn_of (own := RX0) (emb := qe_m) (lv := [(0, .ref (G.2.2.1 254)), (1, .int x1), (2, .int x2), (3, .int x3)]) rfl rfl (Nat.le_of_ble_eq_true rfl) rfl (fun X => ?_)
  unfold fX0_ageOf
  refine qr_iload_n (n := 1) 3 (dkX0_ageOf (i := 0) rfl) rfl rfl ?_
  refine qr_iload_n (n := 2) 2 (dkX0_ageOf (i := 1) rfl) rfl rfl ?_
  refine qr_icmp_le (t := 8) (n := 5) (dkX0_ageOf (i := 2) rfl) (by decide) rfl ?_ ?_
  · refine qr_iload_n (n := 9) 2 (dkX0_ageOf (i := 5) rfl) rfl rfl ?_
    refine qr_aload_n (n := 10) 0 (dkX0_ageOf (i := 6) rfl) rfl rfl ?_
    refine qr_geta (n := 13) 254 0 9 (dkX0_ageOf (i := 7) rfl) rfl lkO_254 rfl gnX0 (Nat.le_of_ble_eq_true rfl) kfX0_27 rfl ?_
    refine qr_geta (n := 16) 9 3 10 (dkX0_ageOf (i := 8) rfl) rfl lkO_9 rfl gnX5 (Nat.le_of_ble_eq_true rfl) kfX0_42 rfl ?_
    refine qr_iload_n (n := 17) 1 (dkX0_ageOf (i := 9) rfl) rfl rfl ?_
    refine qr_zald (n := 18) 10 8 (dkX0_ageOf (i := 10) rfl) rfl lkA_10 ?_
    refine qr_j (fun K_1 : qv_St → Int32 → Option (qv_St × Int32) => ∀ (S_1 : qv_St) (t_1 : Int32), VV G Lk X RX0 cX0_ageOf 7 (some .int) 3 qe_m 39 [(0, .ref (G.2.2.1 254)), (1, .int x1)] [.int t_1, .int x2] S_1 (K_1 S_1 t_1)) (fun S_1 t_1 => ?_) (fun K_1 hK_1 => ?_)
    · refine qr_isub (n := 40) (dkX0_ageOf (i := 22) rfl) rfl ?_
      refine qr_b (α := Int32) (x2 - t_1) (lvf := fun _ => [(0, .ref (G.2.2.1 254)), (1, .int x1)]) (stf := fun z => .int z :: []) (Sf := fun _ => S_1) (fun x4_1 => ?_)
      refine qr_istore (n := 42) (lv2 := [(0, .ref (G.2.2.1 254)), (1, .int x1), (4, .int x4_1)]) [1, 2, 0] (dkX0_ageOf (i := 23) rfl) rfl (by decide) rfl ?_
      refine qr_iload (n := 44) 2 (dkX0_ageOf (i := 24) rfl) rfl rfl ?_
      refine qr_if_ge (t := 50) (n := 47) (dkX0_ageOf (i := 25) rfl) (by decide) rfl ?_ ?_
      · refine qr_aload_n (n := 51) 0 (dkX0_ageOf (i := 28) rfl) rfl rfl ?_
        refine qr_geta (n := 54) 254 0 9 (dkX0_ageOf (i := 29) rfl) rfl lkO_254 rfl gnX0 (Nat.le_of_ble_eq_true rfl) kfX0_27 rfl ?_
        refine qr_geta (n := 57) 9 5 12 (dkX0_ageOf (i := 30) rfl) rfl lkO_9 rfl gnX5 (Nat.le_of_ble_eq_true rfl) kfX0_55 rfl ?_
        refine qr_iload_n (n := 58) 1 (dkX0_ageOf (i := 31) rfl) rfl rfl ?_
        refine qr_iald (n := 59) 12 8 (dkX0_ageOf (i := 32) rfl) rfl lkA_12 ?_
        refine qr_b (α := Int32) (S_1.1 12 (Int32.toNatClampNeg x1)) (lvf := fun _ => [(0, .ref (G.2.2.1 254)), (1, .int x1), (4, .int x4_1)]) (stf := fun z => .int z :: []) (Sf := fun _ => S_1) (fun x5_1 => ?_)
        refine qr_istore (n := 61) (lv2 := [(0, .ref (G.2.2.1 254)), (1, .int x1), (4, .int x4_1), (5, .int x5_1)]) [1, 2, 3, 0] (dkX0_ageOf (i := 33) rfl) rfl (by decide) rfl ?_
        refine qr_aload_n (n := 62) 0 (dkX0_ageOf (i := 34) rfl) rfl rfl ?_
        refine qr_geta (n := 65) 254 0 9 (dkX0_ageOf (i := 35) rfl) rfl lkO_254 rfl gnX0 (Nat.le_of_ble_eq_true rfl) kfX0_27 rfl ?_
        refine qr_geta (n := 68) 9 3 10 (dkX0_ageOf (i := 36) rfl) rfl lkO_9 rfl gnX5 (Nat.le_of_ble_eq_true rfl) kfX0_42 rfl ?_
        refine qr_iload_n (n := 69) 1 (dkX0_ageOf (i := 37) rfl) rfl rfl ?_
        refine qr_zald (n := 70) 10 8 (dkX0_ageOf (i := 38) rfl) rfl lkA_10 ?_
        refine qr_j (fun K_2 : Int32 → Option (qv_St × Int32) => ∀ (t_2 : Int32), VV G Lk X RX0 cX0_ageOf 7 (some .int) 3 qe_m 88 [(0, .ref (G.2.2.1 254)), (1, .int x1)] [.int t_2] S_1 (K_2 t_2)) (fun t_2 => ?_) (fun K_2 hK_2 => ?_)
        · refine qr_istore (n := 90) (lv2 := [(0, .ref (G.2.2.1 254)), (1, .int x1), (6, .int t_2)]) [1, 2, 0] (dkX0_ageOf (i := 47) rfl) rfl (by decide) rfl ?_
          refine qr_iload (n := 92) 2 (dkX0_ageOf (i := 48) rfl) rfl rfl ?_
          refine qr_aload_n (n := 93) 0 (dkX0_ageOf (i := 49) rfl) rfl rfl ?_
          refine qr_geta (n := 96) 254 0 9 (dkX0_ageOf (i := 50) rfl) rfl lkO_254 rfl gnX0 (Nat.le_of_ble_eq_true rfl) kfX0_27 rfl ?_
          refine qr_geta (n := 99) 9 6 13 (dkX0_ageOf (i := 51) rfl) rfl lkO_9 rfl gnX5 (Nat.le_of_ble_eq_true rfl) kfX0_58 rfl ?_
          refine qr_iload_n (n := 100) 1 (dkX0_ageOf (i := 52) rfl) rfl rfl ?_
          refine qr_iald (n := 101) 13 8 (dkX0_ageOf (i := 53) rfl) rfl lkA_13 ?_
          refine qr_icmp_ge (t := 109) (n := 104) (dkX0_ageOf (i := 54) rfl) (by decide) rfl ?_ ?_
          · refine qr_bipush (n := 111) (-2) (dkX0_ageOf (i := 57) rfl) rfl (by decide) ?_
            exact qr_iret (dkX0_ageOf (i := 58) rfl) rfl rfl
          · refine qr_iload (n := 106) 2 (dkX0_ageOf (i := 55) rfl) rfl rfl ?_
            refine qr_goto (n := 111) (dkX0_ageOf (i := 56) rfl) (by decide) ?_
            exact qr_iret (dkX0_ageOf (i := 58) rfl) rfl rfl
        · refine qr_j (fun K_3 : Option (qv_St × Int32) => VV G Lk X RX0 cX0_ageOf 7 (some .int) 3 qe_m 86 [(0, .ref (G.2.2.1 254)), (1, .int x1), (4, .int x4_1)] [] S_1 (K_3)) (?_) (fun K_3 hK_3 => ?_)
          · refine qr_iload (n := 88) 2 (dkX0_ageOf (i := 46) rfl) rfl rfl ?_
            refine qr_sub [0, 1] rfl ?_
            exact hK_2 x4_1
          · refine qr_if_eq (t := 86) (n := 73) (dkX0_ageOf (i := 39) rfl) (by decide) rfl ?_ ?_
            · refine qr_sub [0, 1, 2] rfl ?_
              exact hK_3
            · refine qr_iload (n := 75) 3 (dkX0_ageOf (i := 40) rfl) rfl rfl ?_
              refine qr_if_le (t := 86) (n := 78) (dkX0_ageOf (i := 41) rfl) (by decide) rfl ?_ ?_
              · refine qr_sub [0, 1, 2] rfl ?_
                exact hK_3
              · refine qr_iload (n := 80) 2 (dkX0_ageOf (i := 42) rfl) rfl rfl ?_
                refine qr_iload (n := 82) 3 (dkX0_ageOf (i := 43) rfl) rfl rfl ?_
                refine qr_irem (n := 83) (dkX0_ageOf (i := 44) rfl) rfl ?_
                refine qr_goto (n := 88) (dkX0_ageOf (i := 45) rfl) (by decide) ?_
                refine qr_sub [0, 1] rfl ?_
                exact hK_2 (x4_1 - x4_1 / x5_1 * x5_1)
      · refine qr_bipush (n := 49) (-2) (dkX0_ageOf (i := 26) rfl) rfl (by decide) ?_
        exact qr_iret (dkX0_ageOf (i := 27) rfl) rfl rfl
    · refine qr_if_eq (t := 33) (n := 21) (dkX0_ageOf (i := 11) rfl) (by decide) rfl ?_ ?_
      · refine qr_aload_n (n := 34) 0 (dkX0_ageOf (i := 18) rfl) rfl rfl ?_
        refine qr_iload_n (n := 35) 1 (dkX0_ageOf (i := 19) rfl) rfl rfl ?_
        refine qr_iload_n (n := 36) 2 (dkX0_ageOf (i := 20) rfl) rfl rfl ?_
        refine qr_cvm (n := 39) 254 [.int x1, .int x2] (dkX0_ageOf (i := 21) rfl) rfl kvX0_51 rfl rfl (Nat.le_of_ble_eq_true rfl) rfl rfl lkO_254 rfl (wX0_latestBegin G S0 x1 x2) (fun S_2 r_1 => ?_)
        refine qr_sub [0, 1] rfl ?_
        exact hK_1 S_2 r_1
      · refine qr_aload_n (n := 22) 0 (dkX0_ageOf (i := 12) rfl) rfl rfl ?_
        refine qr_geta (n := 25) 254 0 9 (dkX0_ageOf (i := 13) rfl) rfl lkO_254 rfl gnX0 (Nat.le_of_ble_eq_true rfl) kfX0_27 rfl ?_
        refine qr_geta (n := 28) 9 4 11 (dkX0_ageOf (i := 14) rfl) rfl lkO_9 rfl gnX5 (Nat.le_of_ble_eq_true rfl) kfX0_48 rfl ?_
        refine qr_iload_n (n := 29) 1 (dkX0_ageOf (i := 15) rfl) rfl rfl ?_
        refine qr_iald (n := 30) 11 8 (dkX0_ageOf (i := 16) rfl) rfl lkA_11 ?_
        refine qr_goto (n := 39) (dkX0_ageOf (i := 17) rfl) (by decide) ?_
        refine qr_sub [0, 1] rfl ?_
        exact hK_1 S0 (S0.1 11 (Int32.toNatClampNeg x1))
  · refine qr_bipush (n := 7) (-2) (dkX0_ageOf (i := 3) rfl) rfl (by decide) ?_
    exact qr_iret (dkX0_ageOf (i := 4) rfl) rfl rfl
def tbX2_answer : List (Nat × Instr × Nat) := [(0, .iconst 0, 1), (1, .istore_n 2, 1), (2, .iconst 0, 1), (3, .istore_n 3, 1), (4, .iconst 0, 1), (5, .istore 4, 2), (7, .iload 4, 2), (9, .aload_n 0, 1), (10, .getfield 23, 3), (13, .if_icmp .ge 264, 3), (16, .aload_n 0, 1), (17, .getfield 11, 3), (20, .iload 4, 2), (22, .iaload, 1), (23, .istore 5, 2), (25, .iload_n 3, 1), (26, .ifCond .eq 19, 3), (29, .iload 5, 2), (31, .bipush (-59), 2), (33, .if_icmp .eq 7, 3), (36, .iconst 1, 1), (37, .goto 4, 3), (40, .iconst 0, 1), (41, .istore_n 3, 1), (42, .goto 229, 3), (45, .iload 5, 2), (47, .ifCond .ge 17, 3), (50, .iload 5, 2), (52, .bipush (-21), 2), (54, .if_icmp .lt 48, 3), (57, .iload 5, 2), (59, .bipush (-13), 2), (61, .if_icmp .gt 41, 3), (64, .iload_n 2, 1), (65, .bipush 32, 2), (67, .if_icmp .lt 5, 3), (70, .iconst 0, 1), (71, .ireturn, 1), (72, .aload_n 0, 1), (73, .getfield 17, 3), (76, .iload_n 2, 1), (77, .iload 5, 2), (79, .ifCond .lt 8, 3), (82, .iload 5, 2), (84, .goto 11, 3), (87, .aload_n 1, 1), (88, .iload 5, 2), (90, .ineg, 1), (91, .bipush 13, 2), (93, .isub, 1), (94, .iaload, 1), (95, .iastore, 1), (96, .iinc 2 1, 3), (99, .goto 172, 3), (102, .iload 5, 2), (104, .bipush (-59), 2), (106, .if_icmp .ne 20, 3), (109, .iload_n 2, 1), (110, .ifCond .le 14, 3), (113, .aload_n 0, 1), (114, .getfield 17, 3), (117, .iload_n 2, 1), (118, .iconst 1, 1), (119, .isub, 1), (120, .iaload, 1), (121, .goto 4, 3), (124, .iconst 0, 1), (125, .ireturn, 1), (126, .iload_n 2, 1), (127, .iconst 2, 1), (128, .if_icmp .ge 5, 3), (131, .iconst 0, 1), (132, .ireturn, 1), (133, .aload_n 0, 1), (134, .getfield 17, 3), (137, .iload_n 2, 1), (138, .iconst 1, 1), (139, .isub, 1), (140, .iaload, 1), (141, .istore 6, 2), (143, .aload_n 0, 1), (144, .getfield 17, 3), (147, .iload_n 2, 1), (148, .iconst 2, 1), (149, .isub, 1), (150, .iaload, 1), (151, .istore 7, 2), (153, .iinc 2 (-1), 3), (156, .iload 5, 2), (158, .bipush (-60), 2), (160, .if_icmp .ne 22, 3), (163, .iinc 2 (-1), 3), (166, .iload 7, 2), (168, .iload 6, 2), (170, .if_icmp .lt 7, 3), (173, .iconst 1, 1), (174, .goto 4, 3), (177, .iconst 0, 1), (178, .istore_n 3, 1), (179, .goto 92, 3), (182, .iload 5, 2), (184, .bipush (-43), 2), (186, .if_icmp .ne 19, 3), (189, .aload_n 0, 1), (190, .getfield 17, 3), (193, .iload_n 2, 1), (194, .iconst 1, 1), (195, .isub, 1), (196, .iload 7, 2), (198, .iload 6, 2), (200, .iadd, 1), (201, .iastore, 1), (202, .goto 69, 3), (205, .iload 5, 2), (207, .bipush (-45), 2), (209, .if_icmp .ne 19, 3), (212, .aload_n 0, 1), (213, .getfield 17, 3), (216, .iload_n 2, 1), (217, .iconst 1, 1), (218, .isub, 1), (219, .iload 7, 2), (221, .iload 6, 2), (223, .isub, 1), (224, .iastore, 1), (225, .goto 46, 3), (228, .iload 5, 2), (230, .bipush (-42), 2), (232, .if_icmp .ne 19, 3), (235, .aload_n 0, 1), (236, .getfield 17, 3), (239, .iload_n 2, 1), (240, .iconst 1, 1), (241, .isub, 1), (242, .iload 7, 2), (244, .iload 6, 2), (246, .imul, 1), (247, .iastore, 1), (248, .goto 23, 3), (251, .iload 6, 2), (253, .ifCond .ne 5, 3), (256, .iconst 0, 1), (257, .ireturn, 1), (258, .aload_n 0, 1), (259, .getfield 17, 3), (262, .iload_n 2, 1), (263, .iconst 1, 1), (264, .isub, 1), (265, .iload 7, 2), (267, .iload 6, 2), (269, .idiv, 1), (270, .iastore, 1), (271, .iinc 4 1, 3), (274, .goto (-267), 3), (277, .iconst 0, 1), (278, .ireturn, 1)]
set_option maxRecDepth 20000 in
theorem daX2_answer : ∀ x ∈ tbX2_answer, decode cX2_answer x.1 = .ok x.2 := by decide +kernel
theorem dkX2_answer {i pc n : Nat} {ins : Instr} (h : tbX2_answer[i]? = some (pc, ins, n)) : decode cX2_answer pc = .ok (ins, n) := daX2_answer (pc, ins, n) (List.mem_of_getElem? h)
def fX2_answer (S0 : qv_St) (q : Nat) (v : Nat) : Option (qv_St × Int32) :=
  qv_j (fun (S_1 : qv_St) (x2_1 : Int32) =>
    if x2_1 ≤ 0 then
      some (S_1, 0)
    else
      qv_ck (x2_1 - 1) 32 <|
      some (S_1, (S_1.1 (q + 2) (Int32.toNatClampNeg (x2_1 - 1))))) fun K_1 =>
  qv_lp4 qv_N (fun self_1 (S_2 : qv_St) (x2_2 : Int32) (x3_1 : Int32) (x4_1 : Int32) =>
    if (S_2.1 q 3) ≤ x4_1 then
      some (S_2, 0)
    else
      qv_ck x4_1 400 <|
      qv_b ((S_2.1 (q + 1) (Int32.toNatClampNeg x4_1)) : Int32) fun x5_1 =>
      qv_j (fun (S_3 : qv_St) (x2_3 : Int32) (x3_2 : Int32) =>
        self_1 S_3 x2_3 x3_2 (x4_1 + 1)) fun K_2 =>
      if x3_1 = 0 then
        qv_j (
          if x2_2 < 32 then
            qv_j (fun (t_1 : Int32) =>
              qv_ck x2_2 32 <| qv_b (qv_si S_2 (q + 2) (Int32.toNatClampNeg x2_2) t_1) fun S_4 =>
              K_2 S_4 (x2_2 + 1) x3_1) fun K_4 =>
            if x5_1 < 0 then
              qv_ck ((-x5_1) - 13) 9 <|
              K_4 (S_2.1 v (Int32.toNatClampNeg ((-x5_1) - 13)))
            else
              K_4 x5_1
          else
            some (S_2, 0)) fun K_3 =>
        if 0 ≤ x5_1 then
          K_3
        else
          qv_j (
            if x5_1 = (-59) then
              K_1 S_2 x2_2
            else
              if 2 ≤ x2_2 then
                qv_ck (x2_2 - 1) 32 <|
                qv_b ((S_2.1 (q + 2) (Int32.toNatClampNeg (x2_2 - 1))) : Int32) fun x6_1 =>
                qv_ck (x2_2 - 2) 32 <|
                qv_b ((S_2.1 (q + 2) (Int32.toNatClampNeg (x2_2 - 2))) : Int32) fun x7_1 =>
                if x5_1 = (-60) then
                  qv_j (fun (t_2 : Int32) =>
                    K_2 S_2 ((x2_2 + (-1)) + (-1)) t_2) fun K_6 =>
                  if x7_1 < x6_1 then
                    K_6 0
                  else
                    K_6 1
                else
                  if x5_1 = (-43) then
                    qv_ck ((x2_2 + (-1)) - 1) 32 <| qv_b (qv_si S_2 (q + 2) (Int32.toNatClampNeg ((x2_2 + (-1)) - 1)) (x7_1 + x6_1)) fun S_8 =>
                    K_2 S_8 (x2_2 + (-1)) x3_1
                  else
                    if x5_1 = (-45) then
                      qv_ck ((x2_2 + (-1)) - 1) 32 <| qv_b (qv_si S_2 (q + 2) (Int32.toNatClampNeg ((x2_2 + (-1)) - 1)) (x7_1 - x6_1)) fun S_7 =>
                      K_2 S_7 (x2_2 + (-1)) x3_1
                    else
                      if x5_1 = (-42) then
                        qv_ck ((x2_2 + (-1)) - 1) 32 <| qv_b (qv_si S_2 (q + 2) (Int32.toNatClampNeg ((x2_2 + (-1)) - 1)) (x7_1 * x6_1)) fun S_6 =>
                        K_2 S_6 (x2_2 + (-1)) x3_1
                      else
                        if x6_1 = 0 then
                          some (S_2, 0)
                        else
                          qv_nz x6_1 <|
                          qv_ck ((x2_2 + (-1)) - 1) 32 <| qv_b (qv_si S_2 (q + 2) (Int32.toNatClampNeg ((x2_2 + (-1)) - 1)) (x7_1 / x6_1)) fun S_5 =>
                          K_2 S_5 (x2_2 + (-1)) x3_1
              else
                some (S_2, 0)) fun K_5 =>
          if x5_1 < (-21) then
            K_5
          else
            if (-13) < x5_1 then
              K_5
            else
              K_3
      else
        qv_j (fun (t_3 : Int32) =>
          K_2 S_2 x2_2 t_3) fun K_7 =>
        if x5_1 = (-59) then
          K_7 0
        else
          K_7 1) S0 0 0 0
set_option maxRecDepth 20000 in
set_option maxHeartbeats 4000000 in
theorem wX2_answer (G : qv_GT) (S0 : qv_St) (q : Nat) (v : Nat) (hq : isL q) (hv : Lk[v]? = some (.inr (0, 9, []))) : ∀ r, fX2_answer S0 q v = some r → Cn G Lk yX2_answer cX2_answer 8 (some .int) 1 [.ref (G.2.2.1 q), .ref (G.2.2.1 v)] S0 (qe_m r) := by
  refine cn_of (own := RX2) (emb := qe_m) (lv := [(0, .ref (G.2.2.1 q)), (1, .ref (G.2.2.1 v))]) rfl rfl (Nat.le_of_ble_eq_true rfl) rfl (fun X => ?_)
  unfold fX2_answer
  refine qr_iconst (n := 1) 0 (dkX2_answer (i := 0) rfl) rfl (by decide) ?_
  refine qr_istore_n (n := 2) (lv2 := [(0, .ref (G.2.2.1 q)), (1, .ref (G.2.2.1 v)), (2, .int 0)]) [1, 2, 0] (dkX2_answer (i := 1) rfl) rfl rfl (by decide) rfl ?_
  refine qr_iconst (n := 3) 0 (dkX2_answer (i := 2) rfl) rfl (by decide) ?_
  refine qr_istore_n (n := 4) (lv2 := [(0, .ref (G.2.2.1 q)), (1, .ref (G.2.2.1 v)), (2, .int 0), (3, .int 0)]) [1, 2, 3, 0] (dkX2_answer (i := 3) rfl) rfl rfl (by decide) rfl ?_
  refine qr_iconst (n := 5) 0 (dkX2_answer (i := 4) rfl) rfl (by decide) ?_
  refine qr_istore (n := 7) (lv2 := [(0, .ref (G.2.2.1 q)), (1, .ref (G.2.2.1 v)), (2, .int 0), (3, .int 0), (4, .int 0)]) [1, 2, 3, 4, 0] (dkX2_answer (i := 5) rfl) rfl (by decide) rfl ?_
  refine qr_j (fun K_1 : qv_St → Int32 → Option (qv_St × Int32) => ∀ (S_1 : qv_St) (x2_1 : Int32), VV G Lk X RX2 cX2_answer 8 (some .int) 1 qe_m 109 [(0, .ref (G.2.2.1 q)), (2, .int x2_1)] [] S_1 (K_1 S_1 x2_1)) (fun S_1 x2_1 => ?_) (fun K_1 hK_1 => ?_)
  · refine qr_iload_n (n := 110) 1 (dkX2_answer (i := 57) rfl) rfl rfl ?_
    refine qr_if_le (t := 124) (n := 113) (dkX2_answer (i := 58) rfl) (by decide) rfl ?_ ?_
    · refine qr_iconst (n := 125) 0 (dkX2_answer (i := 66) rfl) rfl (by decide) ?_
      exact qr_iret (dkX2_answer (i := 67) rfl) rfl rfl
    · refine qr_aload_n (n := 114) 0 (dkX2_answer (i := 59) rfl) rfl rfl ?_
      refine qr_geta (n := 117) q 1 (q + 2) (dkX2_answer (i := 60) rfl) rfl hq.1 rfl gnX2 (Nat.le_of_ble_eq_true rfl) kfX2_17 rfl ?_
      refine qr_iload_n (n := 118) 1 (dkX2_answer (i := 61) rfl) rfl rfl ?_
      refine qr_iconst (n := 119) 1 (dkX2_answer (i := 62) rfl) rfl (by decide) ?_
      refine qr_isub (n := 120) (dkX2_answer (i := 63) rfl) rfl ?_
      refine qr_iald (n := 121) (q + 2) 32 (dkX2_answer (i := 64) rfl) rfl hq.2.2.1 ?_
      refine qr_goto (n := 125) (dkX2_answer (i := 65) rfl) (by decide) ?_
      exact qr_iret (dkX2_answer (i := 67) rfl) rfl rfl
  · refine qr_lp4 (fun (S_2 : qv_St) (x2_2 : Int32) (x3_1 : Int32) (x4_1 : Int32) => [(0, .ref (G.2.2.1 q)), (1, .ref (G.2.2.1 v)), (2, .int x2_2), (3, .int x3_1), (4, .int x4_1)]) (fun (S_2 : qv_St) (x2_2 : Int32) (x3_1 : Int32) (x4_1 : Int32) => S_2) (fun self_1 hself_1 S_2 x2_2 x3_1 x4_1 => ?_) qv_N S0 0 0 0
    refine qr_iload (n := 9) 4 (dkX2_answer (i := 6) rfl) rfl rfl ?_
    refine qr_aload_n (n := 10) 0 (dkX2_answer (i := 7) rfl) rfl rfl ?_
    refine qr_geti (n := 13) q 3 (dkX2_answer (i := 8) rfl) rfl hq.1 rfl gnX2 (Nat.le_of_ble_eq_true rfl) kfX2_23 rfl ?_
    refine qr_icmp_ge (t := 277) (n := 16) (dkX2_answer (i := 9) rfl) (by decide) rfl ?_ ?_
    · refine qr_iconst (n := 278) 0 (dkX2_answer (i := 154) rfl) rfl (by decide) ?_
      exact qr_iret (dkX2_answer (i := 155) rfl) rfl rfl
    · refine qr_aload_n (n := 17) 0 (dkX2_answer (i := 10) rfl) rfl rfl ?_
      refine qr_geta (n := 20) q 0 (q + 1) (dkX2_answer (i := 11) rfl) rfl hq.1 rfl gnX2 (Nat.le_of_ble_eq_true rfl) kfX2_11 rfl ?_
      refine qr_iload (n := 22) 4 (dkX2_answer (i := 12) rfl) rfl rfl ?_
      refine qr_iald (n := 23) (q + 1) 400 (dkX2_answer (i := 13) rfl) rfl hq.2.1 ?_
      refine qr_b (α := Int32) (S_2.1 (q + 1) (Int32.toNatClampNeg x4_1)) (lvf := fun _ => [(0, .ref (G.2.2.1 q)), (1, .ref (G.2.2.1 v)), (2, .int x2_2), (3, .int x3_1), (4, .int x4_1)]) (stf := fun z => .int z :: []) (Sf := fun _ => S_2) (fun x5_1 => ?_)
      refine qr_istore (n := 25) (lv2 := [(0, .ref (G.2.2.1 q)), (1, .ref (G.2.2.1 v)), (2, .int x2_2), (3, .int x3_1), (4, .int x4_1), (5, .int x5_1)]) [1, 2, 3, 4, 5, 0] (dkX2_answer (i := 14) rfl) rfl (by decide) rfl ?_
      refine qr_iload_n (n := 26) 3 (dkX2_answer (i := 15) rfl) rfl rfl ?_
      refine qr_j (fun K_2 : qv_St → Int32 → Int32 → Option (qv_St × Int32) => ∀ (S_3 : qv_St) (x2_3 : Int32) (x3_2 : Int32), VV G Lk X RX2 cX2_answer 8 (some .int) 1 qe_m 271 [(0, .ref (G.2.2.1 q)), (1, .ref (G.2.2.1 v)), (2, .int x2_3), (3, .int x3_2), (4, .int x4_1)] [] S_3 (K_2 S_3 x2_3 x3_2)) (fun S_3 x2_3 x3_2 => ?_) (fun K_2 hK_2 => ?_)
      · refine qr_iinc (n := 274) (v := 1) (lv2 := [(0, .ref (G.2.2.1 q)), (1, .ref (G.2.2.1 v)), (2, .int x2_3), (3, .int x3_2), (4, .int (x4_1 + 1))]) 4 [1, 2, 3, 4, 0] (dkX2_answer (i := 152) rfl) rfl rfl (by decide) (by decide) rfl ?_
        refine qr_goto (n := 7) (dkX2_answer (i := 153) rfl) (by decide) ?_
        exact hself_1 S_3 x2_3 x3_2 (x4_1 + 1)
      · refine qr_if_eq (t := 45) (n := 29) (dkX2_answer (i := 16) rfl) (by decide) rfl ?_ ?_
        · refine qr_iload (n := 47) 5 (dkX2_answer (i := 25) rfl) rfl rfl ?_
          refine qr_j (fun K_3 : Option (qv_St × Int32) => VV G Lk X RX2 cX2_answer 8 (some .int) 1 qe_m 64 [(0, .ref (G.2.2.1 q)), (1, .ref (G.2.2.1 v)), (2, .int x2_2), (3, .int x3_1), (4, .int x4_1), (5, .int x5_1)] [] S_2 (K_3)) (?_) (fun K_3 hK_3 => ?_)
          · refine qr_iload_n (n := 65) 2 (dkX2_answer (i := 33) rfl) rfl rfl ?_
            refine qr_bipush (n := 67) 32 (dkX2_answer (i := 34) rfl) rfl (by decide) ?_
            refine qr_icmp_lt (t := 72) (n := 70) (dkX2_answer (i := 35) rfl) (by decide) rfl ?_ ?_
            · refine qr_aload_n (n := 73) 0 (dkX2_answer (i := 38) rfl) rfl rfl ?_
              refine qr_geta (n := 76) q 1 (q + 2) (dkX2_answer (i := 39) rfl) rfl hq.1 rfl gnX2 (Nat.le_of_ble_eq_true rfl) kfX2_17 rfl ?_
              refine qr_iload_n (n := 77) 2 (dkX2_answer (i := 40) rfl) rfl rfl ?_
              refine qr_iload (n := 79) 5 (dkX2_answer (i := 41) rfl) rfl rfl ?_
              refine qr_j (fun K_4 : Int32 → Option (qv_St × Int32) => ∀ (t_1 : Int32), VV G Lk X RX2 cX2_answer 8 (some .int) 1 qe_m 95 [(0, .ref (G.2.2.1 q)), (1, .ref (G.2.2.1 v)), (2, .int x2_2), (3, .int x3_1), (4, .int x4_1)] [.int t_1, .int x2_2, .ref (G.2.2.1 (q + 2))] S_2 (K_4 t_1)) (fun t_1 => ?_) (fun K_4 hK_4 => ?_)
              · refine qr_iast (n := 96) (q + 2) 32 (dkX2_answer (i := 51) rfl) rfl hq.2.2.1 (fun S_4 => ?_)
                refine qr_iinc (n := 99) (v := 1) (lv2 := [(0, .ref (G.2.2.1 q)), (1, .ref (G.2.2.1 v)), (2, .int (x2_2 + 1)), (3, .int x3_1), (4, .int x4_1)]) 2 [1, 2, 0, 3, 4] (dkX2_answer (i := 52) rfl) rfl rfl (by decide) (by decide) rfl ?_
                refine qr_goto (n := 271) (dkX2_answer (i := 53) rfl) (by decide) ?_
                exact hK_2 S_4 (x2_2 + 1) x3_1
              · refine qr_if_lt (t := 87) (n := 82) (dkX2_answer (i := 42) rfl) (by decide) rfl ?_ ?_
                · refine qr_aload_n (n := 88) 1 (dkX2_answer (i := 45) rfl) rfl rfl ?_
                  refine qr_iload (n := 90) 5 (dkX2_answer (i := 46) rfl) rfl rfl ?_
                  refine qr_ineg (n := 91) (dkX2_answer (i := 47) rfl) rfl ?_
                  refine qr_bipush (n := 93) 13 (dkX2_answer (i := 48) rfl) rfl (by decide) ?_
                  refine qr_isub (n := 94) (dkX2_answer (i := 49) rfl) rfl ?_
                  refine qr_iald (n := 95) v 9 (dkX2_answer (i := 50) rfl) rfl hv ?_
                  refine qr_sub [0, 1, 2, 3, 4] rfl ?_
                  exact hK_4 (S_2.1 v (Int32.toNatClampNeg ((-x5_1) - 13)))
                · refine qr_iload (n := 84) 5 (dkX2_answer (i := 43) rfl) rfl rfl ?_
                  refine qr_goto (n := 95) (dkX2_answer (i := 44) rfl) (by decide) ?_
                  refine qr_sub [0, 1, 2, 3, 4] rfl ?_
                  exact hK_4 x5_1
            · refine qr_iconst (n := 71) 0 (dkX2_answer (i := 36) rfl) rfl (by decide) ?_
              exact qr_iret (dkX2_answer (i := 37) rfl) rfl rfl
          · refine qr_if_ge (t := 64) (n := 50) (dkX2_answer (i := 26) rfl) (by decide) rfl ?_ ?_
            · exact hK_3
            · refine qr_iload (n := 52) 5 (dkX2_answer (i := 27) rfl) rfl rfl ?_
              refine qr_bipush (n := 54) (-21) (dkX2_answer (i := 28) rfl) rfl (by decide) ?_
              refine qr_j (fun K_5 : Option (qv_St × Int32) => VV G Lk X RX2 cX2_answer 8 (some .int) 1 qe_m 102 [(0, .ref (G.2.2.1 q)), (1, .ref (G.2.2.1 v)), (2, .int x2_2), (3, .int x3_1), (4, .int x4_1), (5, .int x5_1)] [] S_2 (K_5)) (?_) (fun K_5 hK_5 => ?_)
              · refine qr_iload (n := 104) 5 (dkX2_answer (i := 54) rfl) rfl rfl ?_
                refine qr_bipush (n := 106) (-59) (dkX2_answer (i := 55) rfl) rfl (by decide) ?_
                refine qr_icmp_ne (t := 126) (n := 109) (dkX2_answer (i := 56) rfl) (by decide) rfl ?_ ?_
                · refine qr_iload_n (n := 127) 2 (dkX2_answer (i := 68) rfl) rfl rfl ?_
                  refine qr_iconst (n := 128) 2 (dkX2_answer (i := 69) rfl) rfl (by decide) ?_
                  refine qr_icmp_ge (t := 133) (n := 131) (dkX2_answer (i := 70) rfl) (by decide) rfl ?_ ?_
                  · refine qr_aload_n (n := 134) 0 (dkX2_answer (i := 73) rfl) rfl rfl ?_
                    refine qr_geta (n := 137) q 1 (q + 2) (dkX2_answer (i := 74) rfl) rfl hq.1 rfl gnX2 (Nat.le_of_ble_eq_true rfl) kfX2_17 rfl ?_
                    refine qr_iload_n (n := 138) 2 (dkX2_answer (i := 75) rfl) rfl rfl ?_
                    refine qr_iconst (n := 139) 1 (dkX2_answer (i := 76) rfl) rfl (by decide) ?_
                    refine qr_isub (n := 140) (dkX2_answer (i := 77) rfl) rfl ?_
                    refine qr_iald (n := 141) (q + 2) 32 (dkX2_answer (i := 78) rfl) rfl hq.2.2.1 ?_
                    refine qr_b (α := Int32) (S_2.1 (q + 2) (Int32.toNatClampNeg (x2_2 - 1))) (lvf := fun _ => [(0, .ref (G.2.2.1 q)), (1, .ref (G.2.2.1 v)), (2, .int x2_2), (3, .int x3_1), (4, .int x4_1), (5, .int x5_1)]) (stf := fun z => .int z :: []) (Sf := fun _ => S_2) (fun x6_1 => ?_)
                    refine qr_istore (n := 143) (lv2 := [(0, .ref (G.2.2.1 q)), (1, .ref (G.2.2.1 v)), (2, .int x2_2), (3, .int x3_1), (4, .int x4_1), (5, .int x5_1), (6, .int x6_1)]) [1, 2, 3, 4, 5, 6, 0] (dkX2_answer (i := 79) rfl) rfl (by decide) rfl ?_
                    refine qr_aload_n (n := 144) 0 (dkX2_answer (i := 80) rfl) rfl rfl ?_
                    refine qr_geta (n := 147) q 1 (q + 2) (dkX2_answer (i := 81) rfl) rfl hq.1 rfl gnX2 (Nat.le_of_ble_eq_true rfl) kfX2_17 rfl ?_
                    refine qr_iload_n (n := 148) 2 (dkX2_answer (i := 82) rfl) rfl rfl ?_
                    refine qr_iconst (n := 149) 2 (dkX2_answer (i := 83) rfl) rfl (by decide) ?_
                    refine qr_isub (n := 150) (dkX2_answer (i := 84) rfl) rfl ?_
                    refine qr_iald (n := 151) (q + 2) 32 (dkX2_answer (i := 85) rfl) rfl hq.2.2.1 ?_
                    refine qr_b (α := Int32) (S_2.1 (q + 2) (Int32.toNatClampNeg (x2_2 - 2))) (lvf := fun _ => [(0, .ref (G.2.2.1 q)), (1, .ref (G.2.2.1 v)), (2, .int x2_2), (3, .int x3_1), (4, .int x4_1), (5, .int x5_1), (6, .int x6_1)]) (stf := fun z => .int z :: []) (Sf := fun _ => S_2) (fun x7_1 => ?_)
                    refine qr_istore (n := 153) (lv2 := [(0, .ref (G.2.2.1 q)), (1, .ref (G.2.2.1 v)), (2, .int x2_2), (3, .int x3_1), (4, .int x4_1), (5, .int x5_1), (6, .int x6_1), (7, .int x7_1)]) [1, 2, 3, 4, 5, 6, 7, 0] (dkX2_answer (i := 86) rfl) rfl (by decide) rfl ?_
                    refine qr_iinc (n := 156) (v := (-1)) (lv2 := [(0, .ref (G.2.2.1 q)), (1, .ref (G.2.2.1 v)), (2, .int (x2_2 + (-1))), (3, .int x3_1), (4, .int x4_1), (5, .int x5_1), (6, .int x6_1), (7, .int x7_1)]) 2 [1, 2, 0, 3, 4, 5, 6, 7] (dkX2_answer (i := 87) rfl) rfl rfl (by decide) (by decide) rfl ?_
                    refine qr_iload (n := 158) 5 (dkX2_answer (i := 88) rfl) rfl rfl ?_
                    refine qr_bipush (n := 160) (-60) (dkX2_answer (i := 89) rfl) rfl (by decide) ?_
                    refine qr_icmp_ne (t := 182) (n := 163) (dkX2_answer (i := 90) rfl) (by decide) rfl ?_ ?_
                    · refine qr_iload (n := 184) 5 (dkX2_answer (i := 100) rfl) rfl rfl ?_
                      refine qr_bipush (n := 186) (-43) (dkX2_answer (i := 101) rfl) rfl (by decide) ?_
                      refine qr_icmp_ne (t := 205) (n := 189) (dkX2_answer (i := 102) rfl) (by decide) rfl ?_ ?_
                      · refine qr_iload (n := 207) 5 (dkX2_answer (i := 113) rfl) rfl rfl ?_
                        refine qr_bipush (n := 209) (-45) (dkX2_answer (i := 114) rfl) rfl (by decide) ?_
                        refine qr_icmp_ne (t := 228) (n := 212) (dkX2_answer (i := 115) rfl) (by decide) rfl ?_ ?_
                        · refine qr_iload (n := 230) 5 (dkX2_answer (i := 126) rfl) rfl rfl ?_
                          refine qr_bipush (n := 232) (-42) (dkX2_answer (i := 127) rfl) rfl (by decide) ?_
                          refine qr_icmp_ne (t := 251) (n := 235) (dkX2_answer (i := 128) rfl) (by decide) rfl ?_ ?_
                          · refine qr_iload (n := 253) 6 (dkX2_answer (i := 139) rfl) rfl rfl ?_
                            refine qr_if_ne (t := 258) (n := 256) (dkX2_answer (i := 140) rfl) (by decide) rfl ?_ ?_
                            · refine qr_aload_n (n := 259) 0 (dkX2_answer (i := 143) rfl) rfl rfl ?_
                              refine qr_geta (n := 262) q 1 (q + 2) (dkX2_answer (i := 144) rfl) rfl hq.1 rfl gnX2 (Nat.le_of_ble_eq_true rfl) kfX2_17 rfl ?_
                              refine qr_iload_n (n := 263) 2 (dkX2_answer (i := 145) rfl) rfl rfl ?_
                              refine qr_iconst (n := 264) 1 (dkX2_answer (i := 146) rfl) rfl (by decide) ?_
                              refine qr_isub (n := 265) (dkX2_answer (i := 147) rfl) rfl ?_
                              refine qr_iload (n := 267) 7 (dkX2_answer (i := 148) rfl) rfl rfl ?_
                              refine qr_iload (n := 269) 6 (dkX2_answer (i := 149) rfl) rfl rfl ?_
                              refine qr_idiv (n := 270) (dkX2_answer (i := 150) rfl) rfl ?_
                              refine qr_iast (n := 271) (q + 2) 32 (dkX2_answer (i := 151) rfl) rfl hq.2.2.1 (fun S_5 => ?_)
                              refine qr_sub [0, 1, 2, 3, 4] rfl ?_
                              exact hK_2 S_5 (x2_2 + (-1)) x3_1
                            · refine qr_iconst (n := 257) 0 (dkX2_answer (i := 141) rfl) rfl (by decide) ?_
                              exact qr_iret (dkX2_answer (i := 142) rfl) rfl rfl
                          · refine qr_aload_n (n := 236) 0 (dkX2_answer (i := 129) rfl) rfl rfl ?_
                            refine qr_geta (n := 239) q 1 (q + 2) (dkX2_answer (i := 130) rfl) rfl hq.1 rfl gnX2 (Nat.le_of_ble_eq_true rfl) kfX2_17 rfl ?_
                            refine qr_iload_n (n := 240) 2 (dkX2_answer (i := 131) rfl) rfl rfl ?_
                            refine qr_iconst (n := 241) 1 (dkX2_answer (i := 132) rfl) rfl (by decide) ?_
                            refine qr_isub (n := 242) (dkX2_answer (i := 133) rfl) rfl ?_
                            refine qr_iload (n := 244) 7 (dkX2_answer (i := 134) rfl) rfl rfl ?_
                            refine qr_iload (n := 246) 6 (dkX2_answer (i := 135) rfl) rfl rfl ?_
                            refine qr_imul (n := 247) (dkX2_answer (i := 136) rfl) rfl ?_
                            refine qr_iast (n := 248) (q + 2) 32 (dkX2_answer (i := 137) rfl) rfl hq.2.2.1 (fun S_6 => ?_)
                            refine qr_goto (n := 271) (dkX2_answer (i := 138) rfl) (by decide) ?_
                            refine qr_sub [0, 1, 2, 3, 4] rfl ?_
                            exact hK_2 S_6 (x2_2 + (-1)) x3_1
                        · refine qr_aload_n (n := 213) 0 (dkX2_answer (i := 116) rfl) rfl rfl ?_
                          refine qr_geta (n := 216) q 1 (q + 2) (dkX2_answer (i := 117) rfl) rfl hq.1 rfl gnX2 (Nat.le_of_ble_eq_true rfl) kfX2_17 rfl ?_
                          refine qr_iload_n (n := 217) 2 (dkX2_answer (i := 118) rfl) rfl rfl ?_
                          refine qr_iconst (n := 218) 1 (dkX2_answer (i := 119) rfl) rfl (by decide) ?_
                          refine qr_isub (n := 219) (dkX2_answer (i := 120) rfl) rfl ?_
                          refine qr_iload (n := 221) 7 (dkX2_answer (i := 121) rfl) rfl rfl ?_
                          refine qr_iload (n := 223) 6 (dkX2_answer (i := 122) rfl) rfl rfl ?_
                          refine qr_isub (n := 224) (dkX2_answer (i := 123) rfl) rfl ?_
                          refine qr_iast (n := 225) (q + 2) 32 (dkX2_answer (i := 124) rfl) rfl hq.2.2.1 (fun S_7 => ?_)
                          refine qr_goto (n := 271) (dkX2_answer (i := 125) rfl) (by decide) ?_
                          refine qr_sub [0, 1, 2, 3, 4] rfl ?_
                          exact hK_2 S_7 (x2_2 + (-1)) x3_1
                      · refine qr_aload_n (n := 190) 0 (dkX2_answer (i := 103) rfl) rfl rfl ?_
                        refine qr_geta (n := 193) q 1 (q + 2) (dkX2_answer (i := 104) rfl) rfl hq.1 rfl gnX2 (Nat.le_of_ble_eq_true rfl) kfX2_17 rfl ?_
                        refine qr_iload_n (n := 194) 2 (dkX2_answer (i := 105) rfl) rfl rfl ?_
                        refine qr_iconst (n := 195) 1 (dkX2_answer (i := 106) rfl) rfl (by decide) ?_
                        refine qr_isub (n := 196) (dkX2_answer (i := 107) rfl) rfl ?_
                        refine qr_iload (n := 198) 7 (dkX2_answer (i := 108) rfl) rfl rfl ?_
                        refine qr_iload (n := 200) 6 (dkX2_answer (i := 109) rfl) rfl rfl ?_
                        refine qr_iadd (n := 201) (dkX2_answer (i := 110) rfl) rfl ?_
                        refine qr_iast (n := 202) (q + 2) 32 (dkX2_answer (i := 111) rfl) rfl hq.2.2.1 (fun S_8 => ?_)
                        refine qr_goto (n := 271) (dkX2_answer (i := 112) rfl) (by decide) ?_
                        refine qr_sub [0, 1, 2, 3, 4] rfl ?_
                        exact hK_2 S_8 (x2_2 + (-1)) x3_1
                    · refine qr_iinc (n := 166) (v := (-1)) (lv2 := [(0, .ref (G.2.2.1 q)), (1, .ref (G.2.2.1 v)), (2, .int ((x2_2 + (-1)) + (-1))), (3, .int x3_1), (4, .int x4_1), (5, .int x5_1), (6, .int x6_1), (7, .int x7_1)]) 2 [1, 2, 0, 3, 4, 5, 6, 7] (dkX2_answer (i := 91) rfl) rfl rfl (by decide) (by decide) rfl ?_
                      refine qr_iload (n := 168) 7 (dkX2_answer (i := 92) rfl) rfl rfl ?_
                      refine qr_iload (n := 170) 6 (dkX2_answer (i := 93) rfl) rfl rfl ?_
                      refine qr_j (fun K_6 : Int32 → Option (qv_St × Int32) => ∀ (t_2 : Int32), VV G Lk X RX2 cX2_answer 8 (some .int) 1 qe_m 178 [(0, .ref (G.2.2.1 q)), (1, .ref (G.2.2.1 v)), (2, .int ((x2_2 + (-1)) + (-1))), (4, .int x4_1)] [.int t_2] S_2 (K_6 t_2)) (fun t_2 => ?_) (fun K_6 hK_6 => ?_)
                      · refine qr_istore_n (n := 179) (lv2 := [(0, .ref (G.2.2.1 q)), (1, .ref (G.2.2.1 v)), (2, .int ((x2_2 + (-1)) + (-1))), (3, .int t_2), (4, .int x4_1)]) [1, 2, 3, 0, 4] (dkX2_answer (i := 98) rfl) rfl rfl (by decide) rfl ?_
                        refine qr_goto (n := 271) (dkX2_answer (i := 99) rfl) (by decide) ?_
                        exact hK_2 S_2 ((x2_2 + (-1)) + (-1)) t_2
                      · refine qr_icmp_lt (t := 177) (n := 173) (dkX2_answer (i := 94) rfl) (by decide) rfl ?_ ?_
                        · refine qr_iconst (n := 178) 0 (dkX2_answer (i := 97) rfl) rfl (by decide) ?_
                          refine qr_sub [0, 1, 2, 4] rfl ?_
                          exact hK_6 0
                        · refine qr_iconst (n := 174) 1 (dkX2_answer (i := 95) rfl) rfl (by decide) ?_
                          refine qr_goto (n := 178) (dkX2_answer (i := 96) rfl) (by decide) ?_
                          refine qr_sub [0, 1, 2, 4] rfl ?_
                          exact hK_6 1
                  · refine qr_iconst (n := 132) 0 (dkX2_answer (i := 71) rfl) rfl (by decide) ?_
                    exact qr_iret (dkX2_answer (i := 72) rfl) rfl rfl
                · refine qr_sub [0, 2] rfl ?_
                  exact hK_1 S_2 x2_2
              · refine qr_icmp_lt (t := 102) (n := 57) (dkX2_answer (i := 29) rfl) (by decide) rfl ?_ ?_
                · exact hK_5
                · refine qr_iload (n := 59) 5 (dkX2_answer (i := 30) rfl) rfl rfl ?_
                  refine qr_bipush (n := 61) (-13) (dkX2_answer (i := 31) rfl) rfl (by decide) ?_
                  refine qr_icmp_gt (t := 102) (n := 64) (dkX2_answer (i := 32) rfl) (by decide) rfl ?_ ?_
                  · exact hK_5
                  · exact hK_3
        · refine qr_iload (n := 31) 5 (dkX2_answer (i := 17) rfl) rfl rfl ?_
          refine qr_bipush (n := 33) (-59) (dkX2_answer (i := 18) rfl) rfl (by decide) ?_
          refine qr_j (fun K_7 : Int32 → Option (qv_St × Int32) => ∀ (t_3 : Int32), VV G Lk X RX2 cX2_answer 8 (some .int) 1 qe_m 41 [(0, .ref (G.2.2.1 q)), (1, .ref (G.2.2.1 v)), (2, .int x2_2), (4, .int x4_1)] [.int t_3] S_2 (K_7 t_3)) (fun t_3 => ?_) (fun K_7 hK_7 => ?_)
          · refine qr_istore_n (n := 42) (lv2 := [(0, .ref (G.2.2.1 q)), (1, .ref (G.2.2.1 v)), (2, .int x2_2), (3, .int t_3), (4, .int x4_1)]) [1, 2, 3, 0, 4] (dkX2_answer (i := 23) rfl) rfl rfl (by decide) rfl ?_
            refine qr_goto (n := 271) (dkX2_answer (i := 24) rfl) (by decide) ?_
            exact hK_2 S_2 x2_2 t_3
          · refine qr_icmp_eq (t := 40) (n := 36) (dkX2_answer (i := 19) rfl) (by decide) rfl ?_ ?_
            · refine qr_iconst (n := 41) 0 (dkX2_answer (i := 22) rfl) rfl (by decide) ?_
              refine qr_sub [0, 1, 2, 4] rfl ?_
              exact hK_7 0
            · refine qr_iconst (n := 37) 1 (dkX2_answer (i := 20) rfl) rfl (by decide) ?_
              refine qr_goto (n := 41) (dkX2_answer (i := 21) rfl) (by decide) ?_
              refine qr_sub [0, 1, 2, 4] rfl ?_
              exact hK_7 1
def tbX0_heardOf : List (Nat × Instr × Nat) := [(0, .iload 4, 2), (2, .ifCond .lt 18, 3), (5, .iload_n 2, 1), (6, .ifCond .lt 14, 3), (9, .iload_n 2, 1), (10, .aload_n 0, 1), (11, .getfield 27, 3), (14, .getfield 70, 3), (17, .if_icmp .lt 5, 3), (20, .iconst 0, 1), (21, .ireturn, 1), (22, .aload_n 0, 1), (23, .getfield 11, 3), (26, .iconst 0, 1), (27, .aload_n 0, 1), (28, .getfield 27, 3), (31, .getfield 73, 3), (34, .iload_n 1, 1), (35, .iaload, 1), (36, .iastore, 1), (37, .aload_n 0, 1), (38, .getfield 11, 3), (41, .iconst 1, 1), (42, .iload 4, 2), (44, .iastore, 1), (45, .aload_n 0, 1), (46, .getfield 11, 3), (49, .iconst 2, 1), (50, .aload_n 0, 1), (51, .getfield 27, 3), (54, .getfield 58, 3), (57, .iload_n 1, 1), (58, .iaload, 1), (59, .iastore, 1), (60, .aload_n 0, 1), (61, .getfield 11, 3), (64, .iconst 3, 1), (65, .aload_n 0, 1), (66, .getfield 27, 3), (69, .getfield 76, 3), (72, .iload_n 2, 1), (73, .iaload, 1), (74, .iastore, 1), (75, .aload_n 0, 1), (76, .getfield 11, 3), (79, .bipush 7, 2), (81, .iload_n 1, 1), (82, .iastore, 1), (83, .aload_n 0, 1), (84, .getfield 11, 3), (87, .bipush 8, 2), (89, .iload_n 3, 1), (90, .iastore, 1), (91, .iconst 0, 1), (92, .bipush 99, 2), (94, .aload_n 0, 1), (95, .getfield 27, 3), (98, .getfield 79, 3), (101, .aload_n 0, 1), (102, .getfield 11, 3), (105, .invokevirtual 83, 3), (108, .invokestatic 89, 3), (111, .invokestatic 61, 3), (114, .ireturn, 1)]
set_option maxRecDepth 20000 in
theorem daX0_heardOf : ∀ x ∈ tbX0_heardOf, decode cX0_heardOf x.1 = .ok x.2 := by decide +kernel
theorem dkX0_heardOf {i pc n : Nat} {ins : Instr} (h : tbX0_heardOf[i]? = some (pc, ins, n)) : decode cX0_heardOf pc = .ok (ins, n) := daX0_heardOf (pc, ins, n) (List.mem_of_getElem? h)
def fX0_heardOf (S0 : qv_St) (x1 : Int32) (x2 : Int32) (x3 : Int32) (x4 : Int32) : Option (qv_St × Int32) :=
  if x4 < 0 then
    some (S0, 0)
  else
    if x2 < 0 then
      some (S0, 0)
    else
      if x2 < (S0.1 9 1) then
        qv_ck x1 8 <|
        qv_ck 0 9 <| qv_b (qv_si S0 255 (Int32.toNatClampNeg 0) (S0.1 14 (Int32.toNatClampNeg x1))) fun S_1 =>
        qv_ck 1 9 <| qv_b (qv_si S_1 255 (Int32.toNatClampNeg 1) x4) fun S_2 =>
        qv_ck x1 8 <|
        qv_ck 2 9 <| qv_b (qv_si S_2 255 (Int32.toNatClampNeg 2) (S_2.1 13 (Int32.toNatClampNeg x1))) fun S_3 =>
        qv_ck x2 4 <|
        qv_ck 3 9 <| qv_b (qv_si S_3 255 (Int32.toNatClampNeg 3) (S_3.1 16 (Int32.toNatClampNeg x2))) fun S_4 =>
        qv_ck 7 9 <| qv_b (qv_si S_4 255 (Int32.toNatClampNeg 7) x1) fun S_5 =>
        qv_ck 8 9 <| qv_b (qv_si S_5 255 (Int32.toNatClampNeg 8) x3) fun S_6 =>
        qv_cm (fX2_answer S_6 19 255) fun S_7 r_1 =>
        some (S_7, (qv_mx 0 (qv_mn 99 r_1)))
      else
        some (S0, 0)
set_option maxRecDepth 20000 in
set_option maxHeartbeats 4000000 in
theorem wX0_heardOf (G : qv_GT) (S0 : qv_St) (x1 : Int32) (x2 : Int32) (x3 : Int32) (x4 : Int32) : ∀ r, fX0_heardOf S0 x1 x2 x3 x4 = some r → Cn G Lk yX0_heardOf cX0_heardOf 5 (some .int) 2 [.ref (G.2.2.1 254), .int x1, .int x2, .int x3, .int x4] S0 (qe_m r) := by
  refine cn_of (own := RX0) (emb := qe_m) (lv := [(0, .ref (G.2.2.1 254)), (1, .int x1), (2, .int x2), (3, .int x3), (4, .int x4)]) rfl rfl (Nat.le_of_ble_eq_true rfl) rfl (fun X => ?_)
  unfold fX0_heardOf
  refine qr_iload (n := 2) 4 (dkX0_heardOf (i := 0) rfl) rfl rfl ?_
  refine qr_if_lt (t := 20) (n := 5) (dkX0_heardOf (i := 1) rfl) (by decide) rfl ?_ ?_
  · refine qr_iconst (n := 21) 0 (dkX0_heardOf (i := 9) rfl) rfl (by decide) ?_
    exact qr_iret (dkX0_heardOf (i := 10) rfl) rfl rfl
  · refine qr_iload_n (n := 6) 2 (dkX0_heardOf (i := 2) rfl) rfl rfl ?_
    refine qr_if_lt (t := 20) (n := 9) (dkX0_heardOf (i := 3) rfl) (by decide) rfl ?_ ?_
    · refine qr_iconst (n := 21) 0 (dkX0_heardOf (i := 9) rfl) rfl (by decide) ?_
      exact qr_iret (dkX0_heardOf (i := 10) rfl) rfl rfl
    · refine qr_iload_n (n := 10) 2 (dkX0_heardOf (i := 4) rfl) rfl rfl ?_
      refine qr_aload_n (n := 11) 0 (dkX0_heardOf (i := 5) rfl) rfl rfl ?_
      refine qr_geta (n := 14) 254 0 9 (dkX0_heardOf (i := 6) rfl) rfl lkO_254 rfl gnX0 (Nat.le_of_ble_eq_true rfl) kfX0_27 rfl ?_
      refine qr_geti (n := 17) 9 1 (dkX0_heardOf (i := 7) rfl) rfl lkO_9 rfl gnX5 (Nat.le_of_ble_eq_true rfl) kfX0_70 rfl ?_
      refine qr_icmp_lt (t := 22) (n := 20) (dkX0_heardOf (i := 8) rfl) (by decide) rfl ?_ ?_
      · refine qr_aload_n (n := 23) 0 (dkX0_heardOf (i := 11) rfl) rfl rfl ?_
        refine qr_geta (n := 26) 254 1 255 (dkX0_heardOf (i := 12) rfl) rfl lkO_254 rfl gnX0 (Nat.le_of_ble_eq_true rfl) kfX0_11 rfl ?_
        refine qr_iconst (n := 27) 0 (dkX0_heardOf (i := 13) rfl) rfl (by decide) ?_
        refine qr_aload_n (n := 28) 0 (dkX0_heardOf (i := 14) rfl) rfl rfl ?_
        refine qr_geta (n := 31) 254 0 9 (dkX0_heardOf (i := 15) rfl) rfl lkO_254 rfl gnX0 (Nat.le_of_ble_eq_true rfl) kfX0_27 rfl ?_
        refine qr_geta (n := 34) 9 7 14 (dkX0_heardOf (i := 16) rfl) rfl lkO_9 rfl gnX5 (Nat.le_of_ble_eq_true rfl) kfX0_73 rfl ?_
        refine qr_iload_n (n := 35) 1 (dkX0_heardOf (i := 17) rfl) rfl rfl ?_
        refine qr_iald (n := 36) 14 8 (dkX0_heardOf (i := 18) rfl) rfl lkA_14 ?_
        refine qr_iast (n := 37) 255 9 (dkX0_heardOf (i := 19) rfl) rfl lkA_255 (fun S_1 => ?_)
        refine qr_aload_n (n := 38) 0 (dkX0_heardOf (i := 20) rfl) rfl rfl ?_
        refine qr_geta (n := 41) 254 1 255 (dkX0_heardOf (i := 21) rfl) rfl lkO_254 rfl gnX0 (Nat.le_of_ble_eq_true rfl) kfX0_11 rfl ?_
        refine qr_iconst (n := 42) 1 (dkX0_heardOf (i := 22) rfl) rfl (by decide) ?_
        refine qr_iload (n := 44) 4 (dkX0_heardOf (i := 23) rfl) rfl rfl ?_
        refine qr_iast (n := 45) 255 9 (dkX0_heardOf (i := 24) rfl) rfl lkA_255 (fun S_2 => ?_)
        refine qr_aload_n (n := 46) 0 (dkX0_heardOf (i := 25) rfl) rfl rfl ?_
        refine qr_geta (n := 49) 254 1 255 (dkX0_heardOf (i := 26) rfl) rfl lkO_254 rfl gnX0 (Nat.le_of_ble_eq_true rfl) kfX0_11 rfl ?_
        refine qr_iconst (n := 50) 2 (dkX0_heardOf (i := 27) rfl) rfl (by decide) ?_
        refine qr_aload_n (n := 51) 0 (dkX0_heardOf (i := 28) rfl) rfl rfl ?_
        refine qr_geta (n := 54) 254 0 9 (dkX0_heardOf (i := 29) rfl) rfl lkO_254 rfl gnX0 (Nat.le_of_ble_eq_true rfl) kfX0_27 rfl ?_
        refine qr_geta (n := 57) 9 6 13 (dkX0_heardOf (i := 30) rfl) rfl lkO_9 rfl gnX5 (Nat.le_of_ble_eq_true rfl) kfX0_58 rfl ?_
        refine qr_iload_n (n := 58) 1 (dkX0_heardOf (i := 31) rfl) rfl rfl ?_
        refine qr_iald (n := 59) 13 8 (dkX0_heardOf (i := 32) rfl) rfl lkA_13 ?_
        refine qr_iast (n := 60) 255 9 (dkX0_heardOf (i := 33) rfl) rfl lkA_255 (fun S_3 => ?_)
        refine qr_aload_n (n := 61) 0 (dkX0_heardOf (i := 34) rfl) rfl rfl ?_
        refine qr_geta (n := 64) 254 1 255 (dkX0_heardOf (i := 35) rfl) rfl lkO_254 rfl gnX0 (Nat.le_of_ble_eq_true rfl) kfX0_11 rfl ?_
        refine qr_iconst (n := 65) 3 (dkX0_heardOf (i := 36) rfl) rfl (by decide) ?_
        refine qr_aload_n (n := 66) 0 (dkX0_heardOf (i := 37) rfl) rfl rfl ?_
        refine qr_geta (n := 69) 254 0 9 (dkX0_heardOf (i := 38) rfl) rfl lkO_254 rfl gnX0 (Nat.le_of_ble_eq_true rfl) kfX0_27 rfl ?_
        refine qr_geta (n := 72) 9 9 16 (dkX0_heardOf (i := 39) rfl) rfl lkO_9 rfl gnX5 (Nat.le_of_ble_eq_true rfl) kfX0_76 rfl ?_
        refine qr_iload_n (n := 73) 2 (dkX0_heardOf (i := 40) rfl) rfl rfl ?_
        refine qr_iald (n := 74) 16 4 (dkX0_heardOf (i := 41) rfl) rfl lkA_16 ?_
        refine qr_iast (n := 75) 255 9 (dkX0_heardOf (i := 42) rfl) rfl lkA_255 (fun S_4 => ?_)
        refine qr_aload_n (n := 76) 0 (dkX0_heardOf (i := 43) rfl) rfl rfl ?_
        refine qr_geta (n := 79) 254 1 255 (dkX0_heardOf (i := 44) rfl) rfl lkO_254 rfl gnX0 (Nat.le_of_ble_eq_true rfl) kfX0_11 rfl ?_
        refine qr_bipush (n := 81) 7 (dkX0_heardOf (i := 45) rfl) rfl (by decide) ?_
        refine qr_iload_n (n := 82) 1 (dkX0_heardOf (i := 46) rfl) rfl rfl ?_
        refine qr_iast (n := 83) 255 9 (dkX0_heardOf (i := 47) rfl) rfl lkA_255 (fun S_5 => ?_)
        refine qr_aload_n (n := 84) 0 (dkX0_heardOf (i := 48) rfl) rfl rfl ?_
        refine qr_geta (n := 87) 254 1 255 (dkX0_heardOf (i := 49) rfl) rfl lkO_254 rfl gnX0 (Nat.le_of_ble_eq_true rfl) kfX0_11 rfl ?_
        refine qr_bipush (n := 89) 8 (dkX0_heardOf (i := 50) rfl) rfl (by decide) ?_
        refine qr_iload_n (n := 90) 3 (dkX0_heardOf (i := 51) rfl) rfl rfl ?_
        refine qr_iast (n := 91) 255 9 (dkX0_heardOf (i := 52) rfl) rfl lkA_255 (fun S_6 => ?_)
        refine qr_iconst (n := 92) 0 (dkX0_heardOf (i := 53) rfl) rfl (by decide) ?_
        refine qr_bipush (n := 94) 99 (dkX0_heardOf (i := 54) rfl) rfl (by decide) ?_
        refine qr_aload_n (n := 95) 0 (dkX0_heardOf (i := 55) rfl) rfl rfl ?_
        refine qr_geta (n := 98) 254 0 9 (dkX0_heardOf (i := 56) rfl) rfl lkO_254 rfl gnX0 (Nat.le_of_ble_eq_true rfl) kfX0_27 rfl ?_
        refine qr_geta (n := 101) 9 12 19 (dkX0_heardOf (i := 57) rfl) rfl lkO_9 rfl gnX5 (Nat.le_of_ble_eq_true rfl) kfX0_79 rfl ?_
        refine qr_aload_n (n := 102) 0 (dkX0_heardOf (i := 58) rfl) rfl rfl ?_
        refine qr_geta (n := 105) 254 1 255 (dkX0_heardOf (i := 59) rfl) rfl lkO_254 rfl gnX0 (Nat.le_of_ble_eq_true rfl) kfX0_11 rfl ?_
        refine qr_cvm (n := 108) 19 [.ref (G.2.2.1 255)] (dkX0_heardOf (i := 60) rfl) rfl kvX0_83 rfl rfl (Nat.le_of_ble_eq_true rfl) rfl rfl lkO_19 rfl (wX2_answer G S_6 19 255 isL_19 lkA_255) (fun S_7 r_1 => ?_)
        refine qr_min (n := 111) (dkX0_heardOf (i := 61) rfl) rfl kmX0_89 kmhmin1 kmh2 kmhmin3 rfl (Nat.le_of_ble_eq_true rfl) ?_
        refine qr_max (n := 114) (dkX0_heardOf (i := 62) rfl) rfl kmX0_61 kmhmax1 kmh2 kmhmax3 rfl (Nat.le_of_ble_eq_true rfl) ?_
        exact qr_iret (dkX0_heardOf (i := 63) rfl) rfl rfl
      · refine qr_iconst (n := 21) 0 (dkX0_heardOf (i := 9) rfl) rfl (by decide) ?_
        exact qr_iret (dkX0_heardOf (i := 10) rfl) rfl rfl
def tbX0_borne : List (Nat × Instr × Nat) := [(0, .aload_n 0, 1), (1, .getfield 15, 3), (4, .iconst 4, 1), (5, .aload_n 0, 1), (6, .getfield 27, 3), (9, .getfield 92, 3), (12, .iload_n 1, 1), (13, .iaload, 1), (14, .iastore, 1), (15, .aload_n 0, 1), (16, .getfield 15, 3), (19, .iconst 5, 1), (20, .iload_n 2, 1), (21, .iastore, 1), (22, .aload_n 0, 1), (23, .getfield 15, 3), (26, .bipush 7, 2), (28, .iload_n 1, 1), (29, .iastore, 1), (30, .aload_n 0, 1), (31, .getfield 15, 3), (34, .bipush 8, 2), (36, .iload_n 3, 1), (37, .iastore, 1), (38, .iconst 0, 1), (39, .bipush 99, 2), (41, .aload_n 0, 1), (42, .getfield 27, 3), (45, .getfield 95, 3), (48, .aload_n 0, 1), (49, .getfield 15, 3), (52, .invokevirtual 83, 3), (55, .invokestatic 89, 3), (58, .invokestatic 61, 3), (61, .ireturn, 1)]
set_option maxRecDepth 20000 in
theorem daX0_borne : ∀ x ∈ tbX0_borne, decode cX0_borne x.1 = .ok x.2 := by decide +kernel
theorem dkX0_borne {i pc n : Nat} {ins : Instr} (h : tbX0_borne[i]? = some (pc, ins, n)) : decode cX0_borne pc = .ok (ins, n) := daX0_borne (pc, ins, n) (List.mem_of_getElem? h)
def fX0_borne (S0 : qv_St) (x1 : Int32) (x2 : Int32) (x3 : Int32) : Option (qv_St × Int32) :=
  qv_ck x1 6 <|
  qv_ck 4 9 <| qv_b (qv_si S0 256 (Int32.toNatClampNeg 4) (S0.1 18 (Int32.toNatClampNeg x1))) fun S_1 =>
  qv_ck 5 9 <| qv_b (qv_si S_1 256 (Int32.toNatClampNeg 5) x2) fun S_2 =>
  qv_ck 7 9 <| qv_b (qv_si S_2 256 (Int32.toNatClampNeg 7) x1) fun S_3 =>
  qv_ck 8 9 <| qv_b (qv_si S_3 256 (Int32.toNatClampNeg 8) x3) fun S_4 =>
  qv_cm (fX2_answer S_4 23 256) fun S_5 r_1 =>
  some (S_5, (qv_mx 0 (qv_mn 99 r_1)))
set_option maxRecDepth 20000 in
set_option maxHeartbeats 4000000 in
theorem wX0_borne (G : qv_GT) (S0 : qv_St) (x1 : Int32) (x2 : Int32) (x3 : Int32) : ∀ r, fX0_borne S0 x1 x2 x3 = some r → Cn G Lk yX0_borne cX0_borne 4 (some .int) 2 [.ref (G.2.2.1 254), .int x1, .int x2, .int x3] S0 (qe_m r) := by
  refine cn_of (own := RX0) (emb := qe_m) (lv := [(0, .ref (G.2.2.1 254)), (1, .int x1), (2, .int x2), (3, .int x3)]) rfl rfl (Nat.le_of_ble_eq_true rfl) rfl (fun X => ?_)
  unfold fX0_borne
  refine qr_aload_n (n := 1) 0 (dkX0_borne (i := 0) rfl) rfl rfl ?_
  refine qr_geta (n := 4) 254 2 256 (dkX0_borne (i := 1) rfl) rfl lkO_254 rfl gnX0 (Nat.le_of_ble_eq_true rfl) kfX0_15 rfl ?_
  refine qr_iconst (n := 5) 4 (dkX0_borne (i := 2) rfl) rfl (by decide) ?_
  refine qr_aload_n (n := 6) 0 (dkX0_borne (i := 3) rfl) rfl rfl ?_
  refine qr_geta (n := 9) 254 0 9 (dkX0_borne (i := 4) rfl) rfl lkO_254 rfl gnX0 (Nat.le_of_ble_eq_true rfl) kfX0_27 rfl ?_
  refine qr_geta (n := 12) 9 11 18 (dkX0_borne (i := 5) rfl) rfl lkO_9 rfl gnX5 (Nat.le_of_ble_eq_true rfl) kfX0_92 rfl ?_
  refine qr_iload_n (n := 13) 1 (dkX0_borne (i := 6) rfl) rfl rfl ?_
  refine qr_iald (n := 14) 18 6 (dkX0_borne (i := 7) rfl) rfl lkA_18 ?_
  refine qr_iast (n := 15) 256 9 (dkX0_borne (i := 8) rfl) rfl lkA_256 (fun S_1 => ?_)
  refine qr_aload_n (n := 16) 0 (dkX0_borne (i := 9) rfl) rfl rfl ?_
  refine qr_geta (n := 19) 254 2 256 (dkX0_borne (i := 10) rfl) rfl lkO_254 rfl gnX0 (Nat.le_of_ble_eq_true rfl) kfX0_15 rfl ?_
  refine qr_iconst (n := 20) 5 (dkX0_borne (i := 11) rfl) rfl (by decide) ?_
  refine qr_iload_n (n := 21) 2 (dkX0_borne (i := 12) rfl) rfl rfl ?_
  refine qr_iast (n := 22) 256 9 (dkX0_borne (i := 13) rfl) rfl lkA_256 (fun S_2 => ?_)
  refine qr_aload_n (n := 23) 0 (dkX0_borne (i := 14) rfl) rfl rfl ?_
  refine qr_geta (n := 26) 254 2 256 (dkX0_borne (i := 15) rfl) rfl lkO_254 rfl gnX0 (Nat.le_of_ble_eq_true rfl) kfX0_15 rfl ?_
  refine qr_bipush (n := 28) 7 (dkX0_borne (i := 16) rfl) rfl (by decide) ?_
  refine qr_iload_n (n := 29) 1 (dkX0_borne (i := 17) rfl) rfl rfl ?_
  refine qr_iast (n := 30) 256 9 (dkX0_borne (i := 18) rfl) rfl lkA_256 (fun S_3 => ?_)
  refine qr_aload_n (n := 31) 0 (dkX0_borne (i := 19) rfl) rfl rfl ?_
  refine qr_geta (n := 34) 254 2 256 (dkX0_borne (i := 20) rfl) rfl lkO_254 rfl gnX0 (Nat.le_of_ble_eq_true rfl) kfX0_15 rfl ?_
  refine qr_bipush (n := 36) 8 (dkX0_borne (i := 21) rfl) rfl (by decide) ?_
  refine qr_iload_n (n := 37) 3 (dkX0_borne (i := 22) rfl) rfl rfl ?_
  refine qr_iast (n := 38) 256 9 (dkX0_borne (i := 23) rfl) rfl lkA_256 (fun S_4 => ?_)
  refine qr_iconst (n := 39) 0 (dkX0_borne (i := 24) rfl) rfl (by decide) ?_
  refine qr_bipush (n := 41) 99 (dkX0_borne (i := 25) rfl) rfl (by decide) ?_
  refine qr_aload_n (n := 42) 0 (dkX0_borne (i := 26) rfl) rfl rfl ?_
  refine qr_geta (n := 45) 254 0 9 (dkX0_borne (i := 27) rfl) rfl lkO_254 rfl gnX0 (Nat.le_of_ble_eq_true rfl) kfX0_27 rfl ?_
  refine qr_geta (n := 48) 9 13 23 (dkX0_borne (i := 28) rfl) rfl lkO_9 rfl gnX5 (Nat.le_of_ble_eq_true rfl) kfX0_95 rfl ?_
  refine qr_aload_n (n := 49) 0 (dkX0_borne (i := 29) rfl) rfl rfl ?_
  refine qr_geta (n := 52) 254 2 256 (dkX0_borne (i := 30) rfl) rfl lkO_254 rfl gnX0 (Nat.le_of_ble_eq_true rfl) kfX0_15 rfl ?_
  refine qr_cvm (n := 55) 23 [.ref (G.2.2.1 256)] (dkX0_borne (i := 31) rfl) rfl kvX0_83 rfl rfl (Nat.le_of_ble_eq_true rfl) rfl rfl lkO_23 rfl (wX2_answer G S_4 23 256 isL_23 lkA_256) (fun S_5 r_1 => ?_)
  refine qr_min (n := 58) (dkX0_borne (i := 32) rfl) rfl kmX0_89 kmhmin1 kmh2 kmhmin3 rfl (Nat.le_of_ble_eq_true rfl) ?_
  refine qr_max (n := 61) (dkX0_borne (i := 33) rfl) rfl kmX0_61 kmhmax1 kmh2 kmhmax3 rfl (Nat.le_of_ble_eq_true rfl) ?_
  exact qr_iret (dkX0_borne (i := 34) rfl) rfl rfl
def tbX0_isRustling : List (Nat × Instr × Nat) := [(0, .aload_n 0, 1), (1, .getfield 18, 3), (4, .bipush 6, 2), (6, .iload_n 1, 1), (7, .iastore, 1), (8, .aload_n 0, 1), (9, .getfield 18, 3), (12, .bipush 8, 2), (14, .iload_n 2, 1), (15, .iastore, 1), (16, .aload_n 0, 1), (17, .getfield 27, 3), (20, .getfield 98, 3), (23, .aload_n 0, 1), (24, .getfield 18, 3), (27, .invokevirtual 83, 3), (30, .istore_n 3, 1), (31, .iload_n 3, 1), (32, .ifCond .le 22, 3), (35, .aload_n 0, 1), (36, .bipush 8, 2), (38, .iload_n 2, 1), (39, .imul, 1), (40, .ldc 101, 2), (42, .iadd, 1), (43, .invokevirtual 66, 3), (46, .iload_n 3, 1), (47, .if_icmp .ge 7, 3), (50, .iconst 1, 1), (51, .goto 4, 3), (54, .iconst 0, 1), (55, .ireturn, 1)]
set_option maxRecDepth 20000 in
theorem daX0_isRustling : ∀ x ∈ tbX0_isRustling, decode cX0_isRustling x.1 = .ok x.2 := by decide +kernel
theorem dkX0_isRustling {i pc n : Nat} {ins : Instr} (h : tbX0_isRustling[i]? = some (pc, ins, n)) : decode cX0_isRustling pc = .ok (ins, n) := daX0_isRustling (pc, ins, n) (List.mem_of_getElem? h)
def fX0_isRustling (S0 : qv_St) (x1 : Int32) (x2 : Int32) : Option (qv_St × Int32) :=
  qv_ck 6 9 <| qv_b (qv_si S0 257 (Int32.toNatClampNeg 6) x1) fun S_1 =>
  qv_ck 8 9 <| qv_b (qv_si S_1 257 (Int32.toNatClampNeg 8) x2) fun S_2 =>
  qv_cm (fX2_answer S_2 27 257) fun S_3 r_1 =>
  qv_j (
    some (S_3, 0)) fun K_1 =>
  if r_1 ≤ 0 then
    K_1
  else
    (fX0_lot S_3 ((8 * x2) + 4000000)).bind fun r_2 =>
    if r_1 ≤ r_2 then
      K_1
    else
      some (S_3, 1)
set_option maxRecDepth 20000 in
set_option maxHeartbeats 4000000 in
theorem wX0_isRustling (G : qv_GT) (S0 : qv_St) (x1 : Int32) (x2 : Int32) : ∀ r, fX0_isRustling S0 x1 x2 = some r → Cn G Lk yX0_isRustling cX0_isRustling 4 (some .boolean) 2 [.ref (G.2.2.1 254), .int x1, .int x2] S0 (qe_m r) := by
  refine cn_of (own := RX0) (emb := qe_m) (lv := [(0, .ref (G.2.2.1 254)), (1, .int x1), (2, .int x2)]) rfl rfl (Nat.le_of_ble_eq_true rfl) rfl (fun X => ?_)
  unfold fX0_isRustling
  refine qr_aload_n (n := 1) 0 (dkX0_isRustling (i := 0) rfl) rfl rfl ?_
  refine qr_geta (n := 4) 254 3 257 (dkX0_isRustling (i := 1) rfl) rfl lkO_254 rfl gnX0 (Nat.le_of_ble_eq_true rfl) kfX0_18 rfl ?_
  refine qr_bipush (n := 6) 6 (dkX0_isRustling (i := 2) rfl) rfl (by decide) ?_
  refine qr_iload_n (n := 7) 1 (dkX0_isRustling (i := 3) rfl) rfl rfl ?_
  refine qr_iast (n := 8) 257 9 (dkX0_isRustling (i := 4) rfl) rfl lkA_257 (fun S_1 => ?_)
  refine qr_aload_n (n := 9) 0 (dkX0_isRustling (i := 5) rfl) rfl rfl ?_
  refine qr_geta (n := 12) 254 3 257 (dkX0_isRustling (i := 6) rfl) rfl lkO_254 rfl gnX0 (Nat.le_of_ble_eq_true rfl) kfX0_18 rfl ?_
  refine qr_bipush (n := 14) 8 (dkX0_isRustling (i := 7) rfl) rfl (by decide) ?_
  refine qr_iload_n (n := 15) 2 (dkX0_isRustling (i := 8) rfl) rfl rfl ?_
  refine qr_iast (n := 16) 257 9 (dkX0_isRustling (i := 9) rfl) rfl lkA_257 (fun S_2 => ?_)
  refine qr_aload_n (n := 17) 0 (dkX0_isRustling (i := 10) rfl) rfl rfl ?_
  refine qr_geta (n := 20) 254 0 9 (dkX0_isRustling (i := 11) rfl) rfl lkO_254 rfl gnX0 (Nat.le_of_ble_eq_true rfl) kfX0_27 rfl ?_
  refine qr_geta (n := 23) 9 14 27 (dkX0_isRustling (i := 12) rfl) rfl lkO_9 rfl gnX5 (Nat.le_of_ble_eq_true rfl) kfX0_98 rfl ?_
  refine qr_aload_n (n := 24) 0 (dkX0_isRustling (i := 13) rfl) rfl rfl ?_
  refine qr_geta (n := 27) 254 3 257 (dkX0_isRustling (i := 14) rfl) rfl lkO_254 rfl gnX0 (Nat.le_of_ble_eq_true rfl) kfX0_18 rfl ?_
  refine qr_cvm (n := 30) 27 [.ref (G.2.2.1 257)] (dkX0_isRustling (i := 15) rfl) rfl kvX0_83 rfl rfl (Nat.le_of_ble_eq_true rfl) rfl rfl lkO_27 rfl (wX2_answer G S_2 27 257 isL_27 lkA_257) (fun S_3 r_1 => ?_)
  refine qr_istore_n (n := 31) (lv2 := [(0, .ref (G.2.2.1 254)), (1, .int x1), (2, .int x2), (3, .int r_1)]) [1, 2, 3, 0] (dkX0_isRustling (i := 16) rfl) rfl rfl (by decide) rfl ?_
  refine qr_iload_n (n := 32) 3 (dkX0_isRustling (i := 17) rfl) rfl rfl ?_
  refine qr_j (fun K_1 : Option (qv_St × Int32) => VV G Lk X RX0 cX0_isRustling 4 (some .boolean) 2 qe_m 54 [] [] S_3 (K_1)) (?_) (fun K_1 hK_1 => ?_)
  · refine qr_iconst (n := 55) 0 (dkX0_isRustling (i := 30) rfl) rfl (by decide) ?_
    exact qr_zretc (dkX0_isRustling (i := 31) rfl) rfl rfl rfl
  · refine qr_if_le (t := 54) (n := 35) (dkX0_isRustling (i := 18) rfl) (by decide) rfl ?_ ?_
    · refine qr_sub [] rfl ?_
      exact hK_1
    · refine qr_aload_n (n := 36) 0 (dkX0_isRustling (i := 19) rfl) rfl rfl ?_
      refine qr_bipush (n := 38) 8 (dkX0_isRustling (i := 20) rfl) rfl (by decide) ?_
      refine qr_iload_n (n := 39) 2 (dkX0_isRustling (i := 21) rfl) rfl rfl ?_
      refine qr_imul (n := 40) (dkX0_isRustling (i := 22) rfl) rfl ?_
      refine qr_ldc (n := 42) 4000000 (dkX0_isRustling (i := 23) rfl) rfl kcX0_101 ?_
      refine qr_iadd (n := 43) (dkX0_isRustling (i := 24) rfl) rfl ?_
      refine qr_cvi (n := 46) 254 [.int ((8 * x2) + 4000000)] (dkX0_isRustling (i := 25) rfl) rfl kvX0_66 rfl rfl (Nat.le_of_ble_eq_true rfl) rfl rfl lkO_254 rfl (wX0_lot G S_3 ((8 * x2) + 4000000)) (fun r_2 => ?_)
      refine qr_iload_n (n := 47) 3 (dkX0_isRustling (i := 26) rfl) rfl rfl ?_
      refine qr_icmp_ge (t := 54) (n := 50) (dkX0_isRustling (i := 27) rfl) (by decide) rfl ?_ ?_
      · refine qr_sub [] rfl ?_
        exact hK_1
      · refine qr_iconst (n := 51) 1 (dkX0_isRustling (i := 28) rfl) rfl (by decide) ?_
        refine qr_goto (n := 55) (dkX0_isRustling (i := 29) rfl) (by decide) ?_
        exact qr_zretc (dkX0_isRustling (i := 31) rfl) rfl rfl rfl
def tbX6_copy : List (Nat × Instr × Nat) := [(0, .aload_n 0, 1), (1, .aload_n 1, 1), (2, .getfield 24, 3), (5, .putfield 24, 3), (8, .aload_n 0, 1), (9, .aload_n 1, 1), (10, .getfield 28, 3), (13, .putfield 28, 3), (16, .aload_n 0, 1), (17, .aload_n 1, 1), (18, .getfield 31, 3), (21, .putfield 31, 3), (24, .aload_n 0, 1), (25, .aload_n 1, 1), (26, .getfield 34, 3), (29, .putfield 34, 3), (32, .aload_n 1, 1), (33, .getfield 9, 3), (36, .iconst 0, 1), (37, .aload_n 0, 1), (38, .getfield 9, 3), (41, .iconst 0, 1), (42, .bipush 8, 2), (44, .invokestatic 43, 3), (47, .aload_n 1, 1), (48, .getfield 15, 3), (51, .iconst 0, 1), (52, .aload_n 0, 1), (53, .getfield 15, 3), (56, .iconst 0, 1), (57, .bipush 6, 2), (59, .invokestatic 43, 3), (62, .aload_n 1, 1), (63, .getfield 18, 3), (66, .iconst 0, 1), (67, .aload_n 0, 1), (68, .getfield 18, 3), (71, .iconst 0, 1), (72, .bipush 6, 2), (74, .invokestatic 43, 3), (77, .aload_n 1, 1), (78, .getfield 21, 3), (81, .iconst 0, 1), (82, .aload_n 0, 1), (83, .getfield 21, 3), (86, .iconst 0, 1), (87, .bipush 6, 2), (89, .invokestatic 43, 3), (92, .return_, 1)]
set_option maxRecDepth 20000 in
theorem daX6_copy : ∀ x ∈ tbX6_copy, decode cX6_copy x.1 = .ok x.2 := by decide +kernel
theorem dkX6_copy {i pc n : Nat} {ins : Instr} (h : tbX6_copy[i]? = some (pc, ins, n)) : decode cX6_copy pc = .ok (ins, n) := daX6_copy (pc, ins, n) (List.mem_of_getElem? h)
def fX6_copy (S0 : qv_St) (q : Nat) (p : Nat) : Option qv_St :=
  qv_b (qv_si S0 q 0 (S0.1 p 0)) fun S_1 =>
  qv_b (qv_si S_1 q 1 (S_1.1 p 1)) fun S_2 =>
  qv_b (qv_si S_2 q 2 (S_2.1 p 2)) fun S_3 =>
  qv_b (qv_si S_3 q 3 (S_3.1 p 3)) fun S_4 =>
  qv_cq 0 0 8 8 8 <| qv_b (qv_cp S_4 (p + 1) (Int32.toNatClampNeg 0) (q + 1) (Int32.toNatClampNeg 0) (Int32.toNatClampNeg 8)) fun S_5 =>
  qv_cq 0 0 6 6 6 <| qv_b (qv_cp S_5 (p + 2) (Int32.toNatClampNeg 0) (q + 2) (Int32.toNatClampNeg 0) (Int32.toNatClampNeg 6)) fun S_6 =>
  qv_cq 0 0 6 6 6 <| qv_b (qv_cp S_6 (p + 3) (Int32.toNatClampNeg 0) (q + 3) (Int32.toNatClampNeg 0) (Int32.toNatClampNeg 6)) fun S_7 =>
  qv_cq 0 0 6 6 6 <| qv_b (qv_cp S_7 (p + 4) (Int32.toNatClampNeg 0) (q + 4) (Int32.toNatClampNeg 0) (Int32.toNatClampNeg 6)) fun S_8 =>
  some S_8
set_option maxRecDepth 20000 in
set_option maxHeartbeats 4000000 in
theorem wX6_copy (G : qv_GT) (S0 : qv_St) (q : Nat) (p : Nat) (hq : isS q) (hp : isS p) : ∀ r, fX6_copy S0 q p = some r → Cn G Lk yX6_copy cX6_copy 2 none 2 [.ref (G.2.2.1 q), .ref (G.2.2.1 p)] S0 (qe_u r) := by
  refine cn_of (own := RX6) (emb := qe_u) (lv := [(0, .ref (G.2.2.1 q)), (1, .ref (G.2.2.1 p))]) rfl rfl (Nat.le_of_ble_eq_true rfl) rfl (fun X => ?_)
  unfold fX6_copy
  refine qr_aload_n (n := 1) 0 (dkX6_copy (i := 0) rfl) rfl rfl ?_
  refine qr_aload_n (n := 2) 1 (dkX6_copy (i := 1) rfl) rfl rfl ?_
  refine qr_geti (n := 5) p 0 (dkX6_copy (i := 2) rfl) rfl hp.1 rfl gnX6 (Nat.le_of_ble_eq_true rfl) kfX6_24 rfl ?_
  refine qr_puti (n := 8) q 0 (dkX6_copy (i := 3) rfl) rfl hq.1 rfl gnX6 (Nat.le_of_ble_eq_true rfl) kfX6_24 rfl tyX6_ok nmX6 rfl rfl (fun S_1 => ?_)
  refine qr_aload_n (n := 9) 0 (dkX6_copy (i := 4) rfl) rfl rfl ?_
  refine qr_aload_n (n := 10) 1 (dkX6_copy (i := 5) rfl) rfl rfl ?_
  refine qr_geti (n := 13) p 1 (dkX6_copy (i := 6) rfl) rfl hp.1 rfl gnX6 (Nat.le_of_ble_eq_true rfl) kfX6_28 rfl ?_
  refine qr_puti (n := 16) q 1 (dkX6_copy (i := 7) rfl) rfl hq.1 rfl gnX6 (Nat.le_of_ble_eq_true rfl) kfX6_28 rfl tyX6_ok nmX6 rfl rfl (fun S_2 => ?_)
  refine qr_aload_n (n := 17) 0 (dkX6_copy (i := 8) rfl) rfl rfl ?_
  refine qr_aload_n (n := 18) 1 (dkX6_copy (i := 9) rfl) rfl rfl ?_
  refine qr_geti (n := 21) p 2 (dkX6_copy (i := 10) rfl) rfl hp.1 rfl gnX6 (Nat.le_of_ble_eq_true rfl) kfX6_31 rfl ?_
  refine qr_puti (n := 24) q 2 (dkX6_copy (i := 11) rfl) rfl hq.1 rfl gnX6 (Nat.le_of_ble_eq_true rfl) kfX6_31 rfl tyX6_ok nmX6 rfl rfl (fun S_3 => ?_)
  refine qr_aload_n (n := 25) 0 (dkX6_copy (i := 12) rfl) rfl rfl ?_
  refine qr_aload_n (n := 26) 1 (dkX6_copy (i := 13) rfl) rfl rfl ?_
  refine qr_geti (n := 29) p 3 (dkX6_copy (i := 14) rfl) rfl hp.1 rfl gnX6 (Nat.le_of_ble_eq_true rfl) kfX6_34 rfl ?_
  refine qr_puti (n := 32) q 3 (dkX6_copy (i := 15) rfl) rfl hq.1 rfl gnX6 (Nat.le_of_ble_eq_true rfl) kfX6_34 rfl tyX6_ok nmX6 rfl rfl (fun S_4 => ?_)
  refine qr_aload_n (n := 33) 1 (dkX6_copy (i := 16) rfl) rfl rfl ?_
  refine qr_geta (n := 36) p 4 (p + 1) (dkX6_copy (i := 17) rfl) rfl hp.1 rfl gnX6 (Nat.le_of_ble_eq_true rfl) kfX6_9 rfl ?_
  refine qr_iconst (n := 37) 0 (dkX6_copy (i := 18) rfl) rfl (by decide) ?_
  refine qr_aload_n (n := 38) 0 (dkX6_copy (i := 19) rfl) rfl rfl ?_
  refine qr_geta (n := 41) q 4 (q + 1) (dkX6_copy (i := 20) rfl) rfl hq.1 rfl gnX6 (Nat.le_of_ble_eq_true rfl) kfX6_9 rfl ?_
  refine qr_iconst (n := 42) 0 (dkX6_copy (i := 21) rfl) rfl (by decide) ?_
  refine qr_bipush (n := 44) 8 (dkX6_copy (i := 22) rfl) rfl (by decide) ?_
  refine qr_copy (n := 47) (p + 1) 8 (q + 1) 8 (dkX6_copy (i := 23) rfl) rfl klX6_43 kcy1 kcy2 kcy3 rfl (Nat.le_of_ble_eq_true rfl) hp.2.1 hq.2.1 (fun S_5 => ?_)
  refine qr_aload_n (n := 48) 1 (dkX6_copy (i := 24) rfl) rfl rfl ?_
  refine qr_geta (n := 51) p 5 (p + 2) (dkX6_copy (i := 25) rfl) rfl hp.1 rfl gnX6 (Nat.le_of_ble_eq_true rfl) kfX6_15 rfl ?_
  refine qr_iconst (n := 52) 0 (dkX6_copy (i := 26) rfl) rfl (by decide) ?_
  refine qr_aload_n (n := 53) 0 (dkX6_copy (i := 27) rfl) rfl rfl ?_
  refine qr_geta (n := 56) q 5 (q + 2) (dkX6_copy (i := 28) rfl) rfl hq.1 rfl gnX6 (Nat.le_of_ble_eq_true rfl) kfX6_15 rfl ?_
  refine qr_iconst (n := 57) 0 (dkX6_copy (i := 29) rfl) rfl (by decide) ?_
  refine qr_bipush (n := 59) 6 (dkX6_copy (i := 30) rfl) rfl (by decide) ?_
  refine qr_copy (n := 62) (p + 2) 6 (q + 2) 6 (dkX6_copy (i := 31) rfl) rfl klX6_43 kcy1 kcy2 kcy3 rfl (Nat.le_of_ble_eq_true rfl) hp.2.2.1 hq.2.2.1 (fun S_6 => ?_)
  refine qr_aload_n (n := 63) 1 (dkX6_copy (i := 32) rfl) rfl rfl ?_
  refine qr_geta (n := 66) p 6 (p + 3) (dkX6_copy (i := 33) rfl) rfl hp.1 rfl gnX6 (Nat.le_of_ble_eq_true rfl) kfX6_18 rfl ?_
  refine qr_iconst (n := 67) 0 (dkX6_copy (i := 34) rfl) rfl (by decide) ?_
  refine qr_aload_n (n := 68) 0 (dkX6_copy (i := 35) rfl) rfl rfl ?_
  refine qr_geta (n := 71) q 6 (q + 3) (dkX6_copy (i := 36) rfl) rfl hq.1 rfl gnX6 (Nat.le_of_ble_eq_true rfl) kfX6_18 rfl ?_
  refine qr_iconst (n := 72) 0 (dkX6_copy (i := 37) rfl) rfl (by decide) ?_
  refine qr_bipush (n := 74) 6 (dkX6_copy (i := 38) rfl) rfl (by decide) ?_
  refine qr_copy (n := 77) (p + 3) 6 (q + 3) 6 (dkX6_copy (i := 39) rfl) rfl klX6_43 kcy1 kcy2 kcy3 rfl (Nat.le_of_ble_eq_true rfl) hp.2.2.2.1 hq.2.2.2.1 (fun S_7 => ?_)
  refine qr_aload_n (n := 78) 1 (dkX6_copy (i := 40) rfl) rfl rfl ?_
  refine qr_geta (n := 81) p 7 (p + 4) (dkX6_copy (i := 41) rfl) rfl hp.1 rfl gnX6 (Nat.le_of_ble_eq_true rfl) kfX6_21 rfl ?_
  refine qr_iconst (n := 82) 0 (dkX6_copy (i := 42) rfl) rfl (by decide) ?_
  refine qr_aload_n (n := 83) 0 (dkX6_copy (i := 43) rfl) rfl rfl ?_
  refine qr_geta (n := 86) q 7 (q + 4) (dkX6_copy (i := 44) rfl) rfl hq.1 rfl gnX6 (Nat.le_of_ble_eq_true rfl) kfX6_21 rfl ?_
  refine qr_iconst (n := 87) 0 (dkX6_copy (i := 45) rfl) rfl (by decide) ?_
  refine qr_bipush (n := 89) 6 (dkX6_copy (i := 46) rfl) rfl (by decide) ?_
  refine qr_copy (n := 92) (p + 4) 6 (q + 4) 6 (dkX6_copy (i := 47) rfl) rfl klX6_43 kcy1 kcy2 kcy3 rfl (Nat.le_of_ble_eq_true rfl) hp.2.2.2.2 hq.2.2.2.2 (fun S_8 => ?_)
  exact qr_vret (dkX6_copy (i := 48) rfl) rfl rfl
def tbX1_push : List (Nat × Instr × Nat) := [(0, .aload_n 0, 1), (1, .getfield 11, 3), (4, .aload_n 0, 1), (5, .getfield 16, 3), (8, .aaload, 1), (9, .aload_n 1, 1), (10, .invokevirtual 20, 3), (13, .aload_n 0, 1), (14, .aload_n 0, 1), (15, .getfield 16, 3), (18, .iconst 1, 1), (19, .iadd, 1), (20, .bipush 40, 2), (22, .irem, 1), (23, .putfield 16, 3), (26, .aload_n 0, 1), (27, .bipush 40, 2), (29, .aload_n 0, 1), (30, .getfield 24, 3), (33, .iconst 1, 1), (34, .iadd, 1), (35, .invokestatic 27, 3), (38, .putfield 24, 3), (41, .return_, 1)]
set_option maxRecDepth 20000 in
theorem daX1_push : ∀ x ∈ tbX1_push, decode cX1_push x.1 = .ok x.2 := by decide +kernel
theorem dkX1_push {i pc n : Nat} {ins : Instr} (h : tbX1_push[i]? = some (pc, ins, n)) : decode cX1_push pc = .ok (ins, n) := daX1_push (pc, ins, n) (List.mem_of_getElem? h)
def fX1_push (S0 : qv_St) : Option qv_St :=
  qv_ck (S0.1 36 1) 40 <| (kRing[Int32.toNatClampNeg (S0.1 36 1)]?).bind fun b_1 =>
  (fX6_copy S0 b_1 31).bind fun S_1 =>
  qv_nz 40 <|
  qv_b (qv_si S_1 36 1 (((S_1.1 36 1) + 1) - ((S_1.1 36 1) + 1) / 40 * 40)) fun S_2 =>
  qv_b (qv_si S_2 36 2 (qv_mn 40 ((S_2.1 36 2) + 1))) fun S_3 =>
  some S_3
set_option maxRecDepth 20000 in
set_option maxHeartbeats 4000000 in
theorem wX1_push (G : qv_GT) (S0 : qv_St) : ∀ r, fX1_push S0 = some r → Cn G Lk yX1_push cX1_push 2 none 3 [.ref (G.2.2.1 36), .ref (G.2.2.1 31)] S0 (qe_u r) := by
  refine cn_of (own := RX1) (emb := qe_u) (lv := [(0, .ref (G.2.2.1 36)), (1, .ref (G.2.2.1 31))]) rfl rfl (Nat.le_of_ble_eq_true rfl) rfl (fun X => ?_)
  unfold fX1_push
  refine qr_aload_n (n := 1) 0 (dkX1_push (i := 0) rfl) rfl rfl ?_
  refine qr_geta (n := 4) 36 0 37 (dkX1_push (i := 1) rfl) rfl lkO_36 rfl gnX1 (Nat.le_of_ble_eq_true rfl) kfX1_11 rfl ?_
  refine qr_aload_n (n := 5) 0 (dkX1_push (i := 2) rfl) rfl rfl ?_
  refine qr_geti (n := 8) 36 1 (dkX1_push (i := 3) rfl) rfl lkO_36 rfl gnX1 (Nat.le_of_ble_eq_true rfl) kfX1_16 rfl ?_
  refine qr_aald (n := 9) 37 40 (rs := kRing) (dkX1_push (i := 4) rfl) rfl lkA_37 (fun b_1 hbb_1 => ?_)
  refine qr_aload_n (n := 10) 1 (dkX1_push (i := 5) rfl) rfl rfl ?_
  refine qr_cvu (n := 13) b_1 [.ref (G.2.2.1 31)] (dkX1_push (i := 6) rfl) rfl kvX1_20 rfl rfl (Nat.le_of_ble_eq_true rfl) rfl rfl (isRing hbb_1).1 rfl (wX6_copy G S0 b_1 31 (isRing hbb_1) isS_31) (fun S_1 => ?_)
  refine qr_aload_n (n := 14) 0 (dkX1_push (i := 7) rfl) rfl rfl ?_
  refine qr_aload_n (n := 15) 0 (dkX1_push (i := 8) rfl) rfl rfl ?_
  refine qr_geti (n := 18) 36 1 (dkX1_push (i := 9) rfl) rfl lkO_36 rfl gnX1 (Nat.le_of_ble_eq_true rfl) kfX1_16 rfl ?_
  refine qr_iconst (n := 19) 1 (dkX1_push (i := 10) rfl) rfl (by decide) ?_
  refine qr_iadd (n := 20) (dkX1_push (i := 11) rfl) rfl ?_
  refine qr_bipush (n := 22) 40 (dkX1_push (i := 12) rfl) rfl (by decide) ?_
  refine qr_irem (n := 23) (dkX1_push (i := 13) rfl) rfl ?_
  refine qr_puti (n := 26) 36 1 (dkX1_push (i := 14) rfl) rfl lkO_36 rfl gnX1 (Nat.le_of_ble_eq_true rfl) kfX1_16 rfl tyX1_ok nmX1 rfl rfl (fun S_2 => ?_)
  refine qr_aload_n (n := 27) 0 (dkX1_push (i := 15) rfl) rfl rfl ?_
  refine qr_bipush (n := 29) 40 (dkX1_push (i := 16) rfl) rfl (by decide) ?_
  refine qr_aload_n (n := 30) 0 (dkX1_push (i := 17) rfl) rfl rfl ?_
  refine qr_geti (n := 33) 36 2 (dkX1_push (i := 18) rfl) rfl lkO_36 rfl gnX1 (Nat.le_of_ble_eq_true rfl) kfX1_24 rfl ?_
  refine qr_iconst (n := 34) 1 (dkX1_push (i := 19) rfl) rfl (by decide) ?_
  refine qr_iadd (n := 35) (dkX1_push (i := 20) rfl) rfl ?_
  refine qr_min (n := 38) (dkX1_push (i := 21) rfl) rfl kmX1_27 kmhmin1 kmh2 kmhmin3 rfl (Nat.le_of_ble_eq_true rfl) ?_
  refine qr_puti (n := 41) 36 2 (dkX1_push (i := 22) rfl) rfl lkO_36 rfl gnX1 (Nat.le_of_ble_eq_true rfl) kfX1_24 rfl tyX1_ok nmX1 rfl rfl (fun S_3 => ?_)
  exact qr_vret (dkX1_push (i := 23) rfl) rfl rfl
def tbX1_pop : List (Nat × Instr × Nat) := [(0, .aload_n 0, 1), (1, .getfield 24, 3), (4, .ifCond .le 42, 3), (7, .aload_n 0, 1), (8, .aload_n 0, 1), (9, .getfield 16, 3), (12, .bipush 40, 2), (14, .iadd, 1), (15, .iconst 1, 1), (16, .isub, 1), (17, .bipush 40, 2), (19, .irem, 1), (20, .putfield 16, 3), (23, .aload_n 0, 1), (24, .dup, 1), (25, .getfield 24, 3), (28, .iconst 1, 1), (29, .isub, 1), (30, .putfield 24, 3), (33, .aload_n 1, 1), (34, .aload_n 0, 1), (35, .getfield 11, 3), (38, .aload_n 0, 1), (39, .getfield 16, 3), (42, .aaload, 1), (43, .invokevirtual 20, 3), (46, .return_, 1)]
set_option maxRecDepth 20000 in
theorem daX1_pop : ∀ x ∈ tbX1_pop, decode cX1_pop x.1 = .ok x.2 := by decide +kernel
theorem dkX1_pop {i pc n : Nat} {ins : Instr} (h : tbX1_pop[i]? = some (pc, ins, n)) : decode cX1_pop pc = .ok (ins, n) := daX1_pop (pc, ins, n) (List.mem_of_getElem? h)
def fX1_pop (S0 : qv_St) : Option qv_St :=
  if (S0.1 36 2) ≤ 0 then
    some S0
  else
    qv_nz 40 <|
    qv_b (qv_si S0 36 1 ((((S0.1 36 1) + 40) - 1) - (((S0.1 36 1) + 40) - 1) / 40 * 40)) fun S_1 =>
    qv_b (qv_si S_1 36 2 ((S_1.1 36 2) - 1)) fun S_2 =>
    qv_ck (S_2.1 36 1) 40 <| (kRing[Int32.toNatClampNeg (S_2.1 36 1)]?).bind fun b_1 =>
    (fX6_copy S_2 31 b_1).bind fun S_3 =>
    some S_3
set_option maxRecDepth 20000 in
set_option maxHeartbeats 4000000 in
theorem wX1_pop (G : qv_GT) (S0 : qv_St) : ∀ r, fX1_pop S0 = some r → Cn G Lk yX1_pop cX1_pop 2 none 3 [.ref (G.2.2.1 36), .ref (G.2.2.1 31)] S0 (qe_u r) := by
  refine cn_of (own := RX1) (emb := qe_u) (lv := [(0, .ref (G.2.2.1 36)), (1, .ref (G.2.2.1 31))]) rfl rfl (Nat.le_of_ble_eq_true rfl) rfl (fun X => ?_)
  unfold fX1_pop
  refine qr_aload_n (n := 1) 0 (dkX1_pop (i := 0) rfl) rfl rfl ?_
  refine qr_geti (n := 4) 36 2 (dkX1_pop (i := 1) rfl) rfl lkO_36 rfl gnX1 (Nat.le_of_ble_eq_true rfl) kfX1_24 rfl ?_
  refine qr_if_le (t := 46) (n := 7) (dkX1_pop (i := 2) rfl) (by decide) rfl ?_ ?_
  · exact qr_vret (dkX1_pop (i := 26) rfl) rfl rfl
  · refine qr_aload_n (n := 8) 0 (dkX1_pop (i := 3) rfl) rfl rfl ?_
    refine qr_aload_n (n := 9) 0 (dkX1_pop (i := 4) rfl) rfl rfl ?_
    refine qr_geti (n := 12) 36 1 (dkX1_pop (i := 5) rfl) rfl lkO_36 rfl gnX1 (Nat.le_of_ble_eq_true rfl) kfX1_16 rfl ?_
    refine qr_bipush (n := 14) 40 (dkX1_pop (i := 6) rfl) rfl (by decide) ?_
    refine qr_iadd (n := 15) (dkX1_pop (i := 7) rfl) rfl ?_
    refine qr_iconst (n := 16) 1 (dkX1_pop (i := 8) rfl) rfl (by decide) ?_
    refine qr_isub (n := 17) (dkX1_pop (i := 9) rfl) rfl ?_
    refine qr_bipush (n := 19) 40 (dkX1_pop (i := 10) rfl) rfl (by decide) ?_
    refine qr_irem (n := 20) (dkX1_pop (i := 11) rfl) rfl ?_
    refine qr_puti (n := 23) 36 1 (dkX1_pop (i := 12) rfl) rfl lkO_36 rfl gnX1 (Nat.le_of_ble_eq_true rfl) kfX1_16 rfl tyX1_ok nmX1 rfl rfl (fun S_1 => ?_)
    refine qr_aload_n (n := 24) 0 (dkX1_pop (i := 13) rfl) rfl rfl ?_
    refine qr_dup (n := 25) (dkX1_pop (i := 14) rfl) rfl rfl ?_
    refine qr_geti (n := 28) 36 2 (dkX1_pop (i := 15) rfl) rfl lkO_36 rfl gnX1 (Nat.le_of_ble_eq_true rfl) kfX1_24 rfl ?_
    refine qr_iconst (n := 29) 1 (dkX1_pop (i := 16) rfl) rfl (by decide) ?_
    refine qr_isub (n := 30) (dkX1_pop (i := 17) rfl) rfl ?_
    refine qr_puti (n := 33) 36 2 (dkX1_pop (i := 18) rfl) rfl lkO_36 rfl gnX1 (Nat.le_of_ble_eq_true rfl) kfX1_24 rfl tyX1_ok nmX1 rfl rfl (fun S_2 => ?_)
    refine qr_aload_n (n := 34) 1 (dkX1_pop (i := 19) rfl) rfl rfl ?_
    refine qr_aload_n (n := 35) 0 (dkX1_pop (i := 20) rfl) rfl rfl ?_
    refine qr_geta (n := 38) 36 0 37 (dkX1_pop (i := 21) rfl) rfl lkO_36 rfl gnX1 (Nat.le_of_ble_eq_true rfl) kfX1_11 rfl ?_
    refine qr_aload_n (n := 39) 0 (dkX1_pop (i := 22) rfl) rfl rfl ?_
    refine qr_geti (n := 42) 36 1 (dkX1_pop (i := 23) rfl) rfl lkO_36 rfl gnX1 (Nat.le_of_ble_eq_true rfl) kfX1_16 rfl ?_
    refine qr_aald (n := 43) 37 40 (rs := kRing) (dkX1_pop (i := 24) rfl) rfl lkA_37 (fun b_1 hbb_1 => ?_)
    refine qr_cvu (n := 46) 31 [.ref (G.2.2.1 b_1)] (dkX1_pop (i := 25) rfl) rfl kvX1_20 rfl rfl (Nat.le_of_ble_eq_true rfl) rfl rfl lkO_31 rfl (wX6_copy G S_2 31 b_1 isS_31 (isRing hbb_1)) (fun S_3 => ?_)
    exact qr_vret (dkX1_pop (i := 26) rfl) rfl rfl
def tbX2_emit : List (Nat × Instr × Nat) := [(0, .aload_n 0, 1), (1, .getfield 23, 3), (4, .aload_n 0, 1), (5, .getfield 11, 3), (8, .arraylength, 1), (9, .if_icmp .ge 23, 3), (12, .aload_n 0, 1), (13, .getfield 11, 3), (16, .aload_n 0, 1), (17, .getfield 23, 3), (20, .iload_n 1, 1), (21, .iastore, 1), (22, .aload_n 0, 1), (23, .dup, 1), (24, .getfield 23, 3), (27, .iconst 1, 1), (28, .iadd, 1), (29, .putfield 23, 3), (32, .return_, 1)]
set_option maxRecDepth 20000 in
theorem daX2_emit : ∀ x ∈ tbX2_emit, decode cX2_emit x.1 = .ok x.2 := by decide +kernel
theorem dkX2_emit {i pc n : Nat} {ins : Instr} (h : tbX2_emit[i]? = some (pc, ins, n)) : decode cX2_emit pc = .ok (ins, n) := daX2_emit (pc, ins, n) (List.mem_of_getElem? h)
def fX2_emit (S0 : qv_St) (q : Nat) (x1 : Int32) : Option qv_St :=
  if 400 ≤ (S0.1 q 3) then
    some S0
  else
    qv_ck (S0.1 q 3) 400 <| qv_b (qv_si S0 (q + 1) (Int32.toNatClampNeg (S0.1 q 3)) x1) fun S_1 =>
    qv_b (qv_si S_1 q 3 ((S_1.1 q 3) + 1)) fun S_2 =>
    some S_2
set_option maxRecDepth 20000 in
set_option maxHeartbeats 4000000 in
theorem wX2_emit (G : qv_GT) (S0 : qv_St) (q : Nat) (x1 : Int32) (hq : isL q) : ∀ r, fX2_emit S0 q x1 = some r → Cn G Lk yX2_emit cX2_emit 2 none 1 [.ref (G.2.2.1 q), .int x1] S0 (qe_u r) := by
  refine cn_of (own := RX2) (emb := qe_u) (lv := [(0, .ref (G.2.2.1 q)), (1, .int x1)]) rfl rfl (Nat.le_of_ble_eq_true rfl) rfl (fun X => ?_)
  unfold fX2_emit
  refine qr_aload_n (n := 1) 0 (dkX2_emit (i := 0) rfl) rfl rfl ?_
  refine qr_geti (n := 4) q 3 (dkX2_emit (i := 1) rfl) rfl hq.1 rfl gnX2 (Nat.le_of_ble_eq_true rfl) kfX2_23 rfl ?_
  refine qr_aload_n (n := 5) 0 (dkX2_emit (i := 2) rfl) rfl rfl ?_
  refine qr_geta (n := 8) q 0 (q + 1) (dkX2_emit (i := 3) rfl) rfl hq.1 rfl gnX2 (Nat.le_of_ble_eq_true rfl) kfX2_11 rfl ?_
  refine qr_alen (n := 9) (q + 1) 400 400 (dkX2_emit (i := 4) rfl) rfl hq.2.1 (by decide) ?_
  refine qr_icmp_ge (t := 32) (n := 12) (dkX2_emit (i := 5) rfl) (by decide) rfl ?_ ?_
  · exact qr_vret (dkX2_emit (i := 18) rfl) rfl rfl
  · refine qr_aload_n (n := 13) 0 (dkX2_emit (i := 6) rfl) rfl rfl ?_
    refine qr_geta (n := 16) q 0 (q + 1) (dkX2_emit (i := 7) rfl) rfl hq.1 rfl gnX2 (Nat.le_of_ble_eq_true rfl) kfX2_11 rfl ?_
    refine qr_aload_n (n := 17) 0 (dkX2_emit (i := 8) rfl) rfl rfl ?_
    refine qr_geti (n := 20) q 3 (dkX2_emit (i := 9) rfl) rfl hq.1 rfl gnX2 (Nat.le_of_ble_eq_true rfl) kfX2_23 rfl ?_
    refine qr_iload_n (n := 21) 1 (dkX2_emit (i := 10) rfl) rfl rfl ?_
    refine qr_iast (n := 22) (q + 1) 400 (dkX2_emit (i := 11) rfl) rfl hq.2.1 (fun S_1 => ?_)
    refine qr_aload_n (n := 23) 0 (dkX2_emit (i := 12) rfl) rfl rfl ?_
    refine qr_dup (n := 24) (dkX2_emit (i := 13) rfl) rfl rfl ?_
    refine qr_geti (n := 27) q 3 (dkX2_emit (i := 14) rfl) rfl hq.1 rfl gnX2 (Nat.le_of_ble_eq_true rfl) kfX2_23 rfl ?_
    refine qr_iconst (n := 28) 1 (dkX2_emit (i := 15) rfl) rfl (by decide) ?_
    refine qr_iadd (n := 29) (dkX2_emit (i := 16) rfl) rfl ?_
    refine qr_puti (n := 32) q 3 (dkX2_emit (i := 17) rfl) rfl hq.1 rfl gnX2 (Nat.le_of_ble_eq_true rfl) kfX2_23 rfl tyX2_ok nmX2 rfl rfl (fun S_2 => ?_)
    exact qr_vret (dkX2_emit (i := 18) rfl) rfl rfl
