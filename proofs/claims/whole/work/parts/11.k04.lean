def tbX8_add : List (Nat × Instr × Nat) := [(0, .bipush 24, 2), (2, .istore_n 2, 1), (3, .iload_n 2, 1), (4, .ifCond .lt 42, 3), (7, .aload_n 0, 1), (8, .getfield 13, 3), (11, .sipush 2000, 3), (14, .if_icmp .ge 32, 3), (17, .aload_n 0, 1), (18, .getfield 9, 3), (21, .aload_n 0, 1), (22, .getfield 13, 3), (25, .iload_n 1, 1), (26, .iload_n 2, 1), (27, .iushr, 1), (28, .i2b, 1), (29, .bastore, 1), (30, .aload_n 0, 1), (31, .dup, 1), (32, .getfield 13, 3), (35, .iconst 1, 1), (36, .iadd, 1), (37, .putfield 13, 3), (40, .iinc 2 (-8), 3), (43, .goto (-40), 3), (46, .return_, 1)]
set_option maxRecDepth 20000 in
theorem daX8_add : ∀ x ∈ tbX8_add, decode cX8_add x.1 = .ok x.2 := by decide +kernel
theorem dkX8_add {i pc n : Nat} {ins : Instr} (h : tbX8_add[i]? = some (pc, ins, n)) : decode cX8_add pc = .ok (ins, n) := daX8_add (pc, ins, n) (List.mem_of_getElem? h)
def fX8_add (S0 : qv_St) (x1 : Int32) : Option qv_St :=
  qv_lp2 qv_N (fun self_1 (S_1 : qv_St) (x2_1 : Int32) =>
    if x2_1 < 0 then
      some S_1
    else
      if 2000 ≤ (S_1.1 1 1) then
        some S_1
      else
        qv_ck (S_1.1 1 1) 2000 <| qv_b (qv_si S_1 2 (Int32.toNatClampNeg (S_1.1 1 1)) (vp_nar .byte ((Int32.toInt8 ((Int32.toUInt32 x1 >>> (Int32.toUInt32 x2_1 &&& Int32.toUInt32 31)).toInt32)).toInt32))) fun S_2 =>
        qv_b (qv_si S_2 1 1 ((S_2.1 1 1) + 1)) fun S_3 =>
        self_1 S_3 (x2_1 + (-8))) S0 24
set_option maxRecDepth 20000 in
set_option maxHeartbeats 4000000 in
theorem wX8_add (G : qv_GT) (S0 : qv_St) (x1 : Int32) : ∀ r, fX8_add S0 x1 = some r → Cn G Lk yX8_add cX8_add 3 none 1 [.ref (G.2.2.1 1), .int x1] S0 (qe_u r) := by
  refine cn_of (own := RX8) (emb := qe_u) (lv := [(0, .ref (G.2.2.1 1)), (1, .int x1)]) rfl rfl (Nat.le_of_ble_eq_true rfl) rfl (fun X => ?_)
  unfold fX8_add
  refine qr_bipush (n := 2) 24 (dkX8_add (i := 0) rfl) rfl (by decide) ?_
  refine qr_istore_n (n := 3) (lv2 := [(0, .ref (G.2.2.1 1)), (1, .int x1), (2, .int 24)]) [1, 2, 0] (dkX8_add (i := 1) rfl) rfl rfl (by decide) rfl ?_
  refine qr_lp2 (fun (S_1 : qv_St) (x2_1 : Int32) => [(0, .ref (G.2.2.1 1)), (1, .int x1), (2, .int x2_1)]) (fun (S_1 : qv_St) (x2_1 : Int32) => S_1) (fun self_1 hself_1 S_1 x2_1 => ?_) qv_N S0 24
  refine qr_iload_n (n := 4) 2 (dkX8_add (i := 2) rfl) rfl rfl ?_
  refine qr_if_lt (t := 46) (n := 7) (dkX8_add (i := 3) rfl) (by decide) rfl ?_ ?_
  · exact qr_vret (dkX8_add (i := 25) rfl) rfl rfl
  · refine qr_aload_n (n := 8) 0 (dkX8_add (i := 4) rfl) rfl rfl ?_
    refine qr_geti (n := 11) 1 1 (dkX8_add (i := 5) rfl) rfl lkO_1 rfl gnX8 (Nat.le_of_ble_eq_true rfl) kfX8_13 rfl ?_
    refine qr_sipush (n := 14) 2000 (dkX8_add (i := 6) rfl) rfl (by decide) ?_
    refine qr_icmp_ge (t := 46) (n := 17) (dkX8_add (i := 7) rfl) (by decide) rfl ?_ ?_
    · exact qr_vret (dkX8_add (i := 25) rfl) rfl rfl
    · refine qr_aload_n (n := 18) 0 (dkX8_add (i := 8) rfl) rfl rfl ?_
      refine qr_geta (n := 21) 1 0 2 (dkX8_add (i := 9) rfl) rfl lkO_1 rfl gnX8 (Nat.le_of_ble_eq_true rfl) kfX8_9 rfl ?_
      refine qr_aload_n (n := 22) 0 (dkX8_add (i := 10) rfl) rfl rfl ?_
      refine qr_geti (n := 25) 1 1 (dkX8_add (i := 11) rfl) rfl lkO_1 rfl gnX8 (Nat.le_of_ble_eq_true rfl) kfX8_13 rfl ?_
      refine qr_iload_n (n := 26) 1 (dkX8_add (i := 12) rfl) rfl rfl ?_
      refine qr_iload_n (n := 27) 2 (dkX8_add (i := 13) rfl) rfl rfl ?_
      refine qr_iushr (n := 28) (dkX8_add (i := 14) rfl) rfl ?_
      refine qr_i2b (n := 29) (dkX8_add (i := 15) rfl) rfl ?_
      refine qr_bast (n := 30) 2 2000 (dkX8_add (i := 16) rfl) rfl lkA_2 (fun S_2 => ?_)
      refine qr_aload_n (n := 31) 0 (dkX8_add (i := 17) rfl) rfl rfl ?_
      refine qr_dup (n := 32) (dkX8_add (i := 18) rfl) rfl rfl ?_
      refine qr_geti (n := 35) 1 1 (dkX8_add (i := 19) rfl) rfl lkO_1 rfl gnX8 (Nat.le_of_ble_eq_true rfl) kfX8_13 rfl ?_
      refine qr_iconst (n := 36) 1 (dkX8_add (i := 20) rfl) rfl (by decide) ?_
      refine qr_iadd (n := 37) (dkX8_add (i := 21) rfl) rfl ?_
      refine qr_puti (n := 40) 1 1 (dkX8_add (i := 22) rfl) rfl lkO_1 rfl gnX8 (Nat.le_of_ble_eq_true rfl) kfX8_13 rfl tyX8_ok nmX8 rfl rfl (fun S_3 => ?_)
      refine qr_iinc (n := 43) (v := (-8)) (lv2 := [(0, .ref (G.2.2.1 1)), (1, .int x1), (2, .int (x2_1 + (-8)))]) 2 [1, 2, 0] (dkX8_add (i := 23) rfl) rfl rfl (by decide) (by decide) rfl ?_
      refine qr_goto (n := 3) (dkX8_add (i := 24) rfl) (by decide) ?_
      exact hself_1 S_3 (x2_1 + (-8))
def tbX8_byteAt : List (Nat × Instr × Nat) := [(0, .iload_n 1, 1), (1, .ifCond .lt 31, 3), (4, .iload_n 1, 1), (5, .aload_n 0, 1), (6, .getfield 13, 3), (9, .if_icmp .ge 23, 3), (12, .iload_n 1, 1), (13, .sipush 2000, 3), (16, .if_icmp .ge 16, 3), (19, .aload_n 0, 1), (20, .getfield 9, 3), (23, .iload_n 1, 1), (24, .baload, 1), (25, .sipush 255, 3), (28, .iand, 1), (29, .goto 4, 3), (32, .iconst 0, 1), (33, .ireturn, 1)]
set_option maxRecDepth 20000 in
theorem daX8_byteAt : ∀ x ∈ tbX8_byteAt, decode cX8_byteAt x.1 = .ok x.2 := by decide +kernel
theorem dkX8_byteAt {i pc n : Nat} {ins : Instr} (h : tbX8_byteAt[i]? = some (pc, ins, n)) : decode cX8_byteAt pc = .ok (ins, n) := daX8_byteAt (pc, ins, n) (List.mem_of_getElem? h)
def fX8_byteAt (S0 : qv_St) (x1 : Int32) : Option Int32 :=
  qv_j (
    some 0) fun K_1 =>
  if x1 < 0 then
    K_1
  else
    if (S0.1 1 1) ≤ x1 then
      K_1
    else
      if 2000 ≤ x1 then
        K_1
      else
        qv_ck x1 2000 <|
        some ((S0.1 2 (Int32.toNatClampNeg x1)) &&& 255)
set_option maxRecDepth 20000 in
set_option maxHeartbeats 4000000 in
theorem wX8_byteAt (G : qv_GT) (S0 : qv_St) (x1 : Int32) : ∀ r, fX8_byteAt S0 x1 = some r → Cn G Lk yX8_byteAt cX8_byteAt 2 (some .int) 1 [.ref (G.2.2.1 1), .int x1] S0 ((qe_i S0) r) := by
  refine cn_of (own := RX8) (emb := (qe_i S0)) (lv := [(0, .ref (G.2.2.1 1)), (1, .int x1)]) rfl rfl (Nat.le_of_ble_eq_true rfl) rfl (fun X => ?_)
  unfold fX8_byteAt
  refine qr_iload_n (n := 1) 1 (dkX8_byteAt (i := 0) rfl) rfl rfl ?_
  refine qr_j (fun K_1 : Option Int32 => VV G Lk X RX8 cX8_byteAt 2 (some .int) 1 (qe_i S0) 32 [] [] S0 (K_1)) (?_) (fun K_1 hK_1 => ?_)
  · refine qr_iconst (n := 33) 0 (dkX8_byteAt (i := 16) rfl) rfl (by decide) ?_
    exact qr_iret (dkX8_byteAt (i := 17) rfl) rfl rfl
  · refine qr_if_lt (t := 32) (n := 4) (dkX8_byteAt (i := 1) rfl) (by decide) rfl ?_ ?_
    · refine qr_sub [] rfl ?_
      exact hK_1
    · refine qr_iload_n (n := 5) 1 (dkX8_byteAt (i := 2) rfl) rfl rfl ?_
      refine qr_aload_n (n := 6) 0 (dkX8_byteAt (i := 3) rfl) rfl rfl ?_
      refine qr_geti (n := 9) 1 1 (dkX8_byteAt (i := 4) rfl) rfl lkO_1 rfl gnX8 (Nat.le_of_ble_eq_true rfl) kfX8_13 rfl ?_
      refine qr_icmp_ge (t := 32) (n := 12) (dkX8_byteAt (i := 5) rfl) (by decide) rfl ?_ ?_
      · refine qr_sub [] rfl ?_
        exact hK_1
      · refine qr_iload_n (n := 13) 1 (dkX8_byteAt (i := 6) rfl) rfl rfl ?_
        refine qr_sipush (n := 16) 2000 (dkX8_byteAt (i := 7) rfl) rfl (by decide) ?_
        refine qr_icmp_ge (t := 32) (n := 19) (dkX8_byteAt (i := 8) rfl) (by decide) rfl ?_ ?_
        · refine qr_sub [] rfl ?_
          exact hK_1
        · refine qr_aload_n (n := 20) 0 (dkX8_byteAt (i := 9) rfl) rfl rfl ?_
          refine qr_geta (n := 23) 1 0 2 (dkX8_byteAt (i := 10) rfl) rfl lkO_1 rfl gnX8 (Nat.le_of_ble_eq_true rfl) kfX8_9 rfl ?_
          refine qr_iload_n (n := 24) 1 (dkX8_byteAt (i := 11) rfl) rfl rfl ?_
          refine qr_bald (n := 25) 2 2000 (dkX8_byteAt (i := 12) rfl) rfl lkA_2 ?_
          refine qr_sipush (n := 28) 255 (dkX8_byteAt (i := 13) rfl) rfl (by decide) ?_
          refine qr_iand (n := 29) (dkX8_byteAt (i := 14) rfl) rfl ?_
          refine qr_goto (n := 33) (dkX8_byteAt (i := 15) rfl) (by decide) ?_
          exact qr_iret (dkX8_byteAt (i := 17) rfl) rfl rfl
def tbX9_sortOf : List (Nat × Instr × Nat) := [(0, .iload_n 0, 1), (1, .bipush 97, 2), (3, .if_icmp .lt 11, 3), (6, .iload_n 0, 1), (7, .bipush 122, 2), (9, .if_icmp .gt 5, 3), (12, .iconst 0, 1), (13, .ireturn, 1), (14, .iload_n 0, 1), (15, .bipush 48, 2), (17, .if_icmp .lt 11, 3), (20, .iload_n 0, 1), (21, .bipush 57, 2), (23, .if_icmp .gt 5, 3), (26, .iconst 1, 1), (27, .ireturn, 1), (28, .iload_n 0, 1), (29, .bipush 9, 2), (31, .if_icmp .eq 21, 3), (34, .iload_n 0, 1), (35, .bipush 10, 2), (37, .if_icmp .eq 15, 3), (40, .iload_n 0, 1), (41, .bipush 13, 2), (43, .if_icmp .eq 9, 3), (46, .iload_n 0, 1), (47, .bipush 32, 2), (49, .if_icmp .ne 7, 3), (52, .iconst 2, 1), (53, .goto 4, 3), (56, .iconst 3, 1), (57, .ireturn, 1)]
set_option maxRecDepth 20000 in
theorem daX9_sortOf : ∀ x ∈ tbX9_sortOf, decode cX9_sortOf x.1 = .ok x.2 := by decide +kernel
theorem dkX9_sortOf {i pc n : Nat} {ins : Instr} (h : tbX9_sortOf[i]? = some (pc, ins, n)) : decode cX9_sortOf pc = .ok (ins, n) := daX9_sortOf (pc, ins, n) (List.mem_of_getElem? h)
def fX9_sortOf (x0 : Int32) : Option Int32 :=
  qv_j (
    qv_j (
      qv_j (
        some 2) fun K_3 =>
      if x0 = 9 then
        K_3
      else
        if x0 = 10 then
          K_3
        else
          if x0 = 13 then
            K_3
          else
            if x0 = 32 then
              K_3
            else
              some 3) fun K_2 =>
    if x0 < 48 then
      K_2
    else
      if 57 < x0 then
        K_2
      else
        some 1) fun K_1 =>
  if x0 < 97 then
    K_1
  else
    if 122 < x0 then
      K_1
    else
      some 0
set_option maxRecDepth 20000 in
set_option maxHeartbeats 4000000 in
theorem wX9_sortOf (G : qv_GT) (S0 : qv_St) (x0 : Int32) : ∀ r, fX9_sortOf x0 = some r → Cn G Lk yX9_sortOf cX9_sortOf 1 (some .int) 1 [.int x0] S0 ((qe_i S0) r) := by
  refine cn_of (own := RX9) (emb := (qe_i S0)) (lv := [(0, .int x0)]) rfl rfl (Nat.le_of_ble_eq_true rfl) rfl (fun X => ?_)
  unfold fX9_sortOf
  refine qr_iload_n (n := 1) 0 (dkX9_sortOf (i := 0) rfl) rfl rfl ?_
  refine qr_bipush (n := 3) 97 (dkX9_sortOf (i := 1) rfl) rfl (by decide) ?_
  refine qr_j (fun K_1 : Option Int32 => VV G Lk X RX9 cX9_sortOf 1 (some .int) 1 (qe_i S0) 14 [(0, .int x0)] [] S0 (K_1)) (?_) (fun K_1 hK_1 => ?_)
  · refine qr_iload_n (n := 15) 0 (dkX9_sortOf (i := 8) rfl) rfl rfl ?_
    refine qr_bipush (n := 17) 48 (dkX9_sortOf (i := 9) rfl) rfl (by decide) ?_
    refine qr_j (fun K_2 : Option Int32 => VV G Lk X RX9 cX9_sortOf 1 (some .int) 1 (qe_i S0) 28 [(0, .int x0)] [] S0 (K_2)) (?_) (fun K_2 hK_2 => ?_)
    · refine qr_iload_n (n := 29) 0 (dkX9_sortOf (i := 16) rfl) rfl rfl ?_
      refine qr_bipush (n := 31) 9 (dkX9_sortOf (i := 17) rfl) rfl (by decide) ?_
      refine qr_j (fun K_3 : Option Int32 => VV G Lk X RX9 cX9_sortOf 1 (some .int) 1 (qe_i S0) 52 [] [] S0 (K_3)) (?_) (fun K_3 hK_3 => ?_)
      · refine qr_iconst (n := 53) 2 (dkX9_sortOf (i := 28) rfl) rfl (by decide) ?_
        refine qr_goto (n := 57) (dkX9_sortOf (i := 29) rfl) (by decide) ?_
        exact qr_iret (dkX9_sortOf (i := 31) rfl) rfl rfl
      · refine qr_icmp_eq (t := 52) (n := 34) (dkX9_sortOf (i := 18) rfl) (by decide) rfl ?_ ?_
        · refine qr_sub [] rfl ?_
          exact hK_3
        · refine qr_iload_n (n := 35) 0 (dkX9_sortOf (i := 19) rfl) rfl rfl ?_
          refine qr_bipush (n := 37) 10 (dkX9_sortOf (i := 20) rfl) rfl (by decide) ?_
          refine qr_icmp_eq (t := 52) (n := 40) (dkX9_sortOf (i := 21) rfl) (by decide) rfl ?_ ?_
          · refine qr_sub [] rfl ?_
            exact hK_3
          · refine qr_iload_n (n := 41) 0 (dkX9_sortOf (i := 22) rfl) rfl rfl ?_
            refine qr_bipush (n := 43) 13 (dkX9_sortOf (i := 23) rfl) rfl (by decide) ?_
            refine qr_icmp_eq (t := 52) (n := 46) (dkX9_sortOf (i := 24) rfl) (by decide) rfl ?_ ?_
            · refine qr_sub [] rfl ?_
              exact hK_3
            · refine qr_iload_n (n := 47) 0 (dkX9_sortOf (i := 25) rfl) rfl rfl ?_
              refine qr_bipush (n := 49) 32 (dkX9_sortOf (i := 26) rfl) rfl (by decide) ?_
              refine qr_icmp_ne (t := 56) (n := 52) (dkX9_sortOf (i := 27) rfl) (by decide) rfl ?_ ?_
              · refine qr_iconst (n := 57) 3 (dkX9_sortOf (i := 30) rfl) rfl (by decide) ?_
                exact qr_iret (dkX9_sortOf (i := 31) rfl) rfl rfl
              · refine qr_sub [] rfl ?_
                exact hK_3
    · refine qr_icmp_lt (t := 28) (n := 20) (dkX9_sortOf (i := 10) rfl) (by decide) rfl ?_ ?_
      · exact hK_2
      · refine qr_iload_n (n := 21) 0 (dkX9_sortOf (i := 11) rfl) rfl rfl ?_
        refine qr_bipush (n := 23) 57 (dkX9_sortOf (i := 12) rfl) rfl (by decide) ?_
        refine qr_icmp_gt (t := 28) (n := 26) (dkX9_sortOf (i := 13) rfl) (by decide) rfl ?_ ?_
        · exact hK_2
        · refine qr_iconst (n := 27) 1 (dkX9_sortOf (i := 14) rfl) rfl (by decide) ?_
          exact qr_iret (dkX9_sortOf (i := 15) rfl) rfl rfl
  · refine qr_icmp_lt (t := 14) (n := 6) (dkX9_sortOf (i := 2) rfl) (by decide) rfl ?_ ?_
    · exact hK_1
    · refine qr_iload_n (n := 7) 0 (dkX9_sortOf (i := 3) rfl) rfl rfl ?_
      refine qr_bipush (n := 9) 122 (dkX9_sortOf (i := 4) rfl) rfl (by decide) ?_
      refine qr_icmp_gt (t := 14) (n := 12) (dkX9_sortOf (i := 5) rfl) (by decide) rfl ?_ ?_
      · exact hK_1
      · refine qr_iconst (n := 13) 0 (dkX9_sortOf (i := 6) rfl) rfl (by decide) ?_
        exact qr_iret (dkX9_sortOf (i := 7) rfl) rfl rfl
def tbX9_runFrom : List (Nat × Instr × Nat) := [(0, .iconst 1, 1), (1, .istore_n 3, 1), (2, .iload_n 2, 1), (3, .iconst 3, 1), (4, .if_icmp .eq 33, 3), (7, .iload_n 1, 1), (8, .iload_n 3, 1), (9, .iadd, 1), (10, .aload_n 0, 1), (11, .getfield 26, 3), (14, .if_icmp .ge 23, 3), (17, .aload_n 0, 1), (18, .iload_n 1, 1), (19, .iload_n 3, 1), (20, .iadd, 1), (21, .invokevirtual 34, 3), (24, .invokestatic 38, 3), (27, .iload_n 2, 1), (28, .if_icmp .ne 9, 3), (31, .iinc 3 1, 3), (34, .goto (-32), 3), (37, .iload_n 3, 1), (38, .ireturn, 1)]
set_option maxRecDepth 20000 in
theorem daX9_runFrom : ∀ x ∈ tbX9_runFrom, decode cX9_runFrom x.1 = .ok x.2 := by decide +kernel
theorem dkX9_runFrom {i pc n : Nat} {ins : Instr} (h : tbX9_runFrom[i]? = some (pc, ins, n)) : decode cX9_runFrom pc = .ok (ins, n) := daX9_runFrom (pc, ins, n) (List.mem_of_getElem? h)
def fX9_runFrom (S0 : qv_St) (x1 : Int32) (x2 : Int32) : Option Int32 :=
  qv_lp1 qv_N (fun self_1 (x3_1 : Int32) =>
    if x2 = 3 then
      some x3_1
    else
      if (S0.1 1 1) ≤ (x1 + x3_1) then
        some x3_1
      else
        (fX8_byteAt S0 (x1 + x3_1)).bind fun r_1 =>
        (fX9_sortOf r_1).bind fun r_2 =>
        if r_2 = x2 then
          self_1 (x3_1 + 1)
        else
          some x3_1) 1
set_option maxRecDepth 20000 in
set_option maxHeartbeats 4000000 in
theorem wX9_runFrom (G : qv_GT) (S0 : qv_St) (x1 : Int32) (x2 : Int32) : ∀ r, fX9_runFrom S0 x1 x2 = some r → Cn G Lk yX9_runFrom cX9_runFrom 4 (some .int) 2 [.ref (G.2.2.1 1), .int x1, .int x2] S0 ((qe_i S0) r) := by
  refine cn_of (own := RX9) (emb := (qe_i S0)) (lv := [(0, .ref (G.2.2.1 1)), (1, .int x1), (2, .int x2)]) rfl rfl (Nat.le_of_ble_eq_true rfl) rfl (fun X => ?_)
  unfold fX9_runFrom
  refine qr_iconst (n := 1) 1 (dkX9_runFrom (i := 0) rfl) rfl (by decide) ?_
  refine qr_istore_n (n := 2) (lv2 := [(0, .ref (G.2.2.1 1)), (1, .int x1), (2, .int x2), (3, .int 1)]) [1, 2, 3, 0] (dkX9_runFrom (i := 1) rfl) rfl rfl (by decide) rfl ?_
  refine qr_lp1 (fun (x3_1 : Int32) => [(0, .ref (G.2.2.1 1)), (1, .int x1), (2, .int x2), (3, .int x3_1)]) (fun (x3_1 : Int32) => S0) (fun self_1 hself_1 x3_1 => ?_) qv_N 1
  refine qr_iload_n (n := 3) 2 (dkX9_runFrom (i := 2) rfl) rfl rfl ?_
  refine qr_iconst (n := 4) 3 (dkX9_runFrom (i := 3) rfl) rfl (by decide) ?_
  refine qr_icmp_eq (t := 37) (n := 7) (dkX9_runFrom (i := 4) rfl) (by decide) rfl ?_ ?_
  · refine qr_iload_n (n := 38) 3 (dkX9_runFrom (i := 21) rfl) rfl rfl ?_
    exact qr_iret (dkX9_runFrom (i := 22) rfl) rfl rfl
  · refine qr_iload_n (n := 8) 1 (dkX9_runFrom (i := 5) rfl) rfl rfl ?_
    refine qr_iload_n (n := 9) 3 (dkX9_runFrom (i := 6) rfl) rfl rfl ?_
    refine qr_iadd (n := 10) (dkX9_runFrom (i := 7) rfl) rfl ?_
    refine qr_aload_n (n := 11) 0 (dkX9_runFrom (i := 8) rfl) rfl rfl ?_
    refine qr_geti (n := 14) 1 1 (dkX9_runFrom (i := 9) rfl) rfl lkO_1 rfl gnX8 (Nat.le_of_ble_eq_true rfl) kfX9_26 rfl ?_
    refine qr_icmp_ge (t := 37) (n := 17) (dkX9_runFrom (i := 10) rfl) (by decide) rfl ?_ ?_
    · refine qr_iload_n (n := 38) 3 (dkX9_runFrom (i := 21) rfl) rfl rfl ?_
      exact qr_iret (dkX9_runFrom (i := 22) rfl) rfl rfl
    · refine qr_aload_n (n := 18) 0 (dkX9_runFrom (i := 11) rfl) rfl rfl ?_
      refine qr_iload_n (n := 19) 1 (dkX9_runFrom (i := 12) rfl) rfl rfl ?_
      refine qr_iload_n (n := 20) 3 (dkX9_runFrom (i := 13) rfl) rfl rfl ?_
      refine qr_iadd (n := 21) (dkX9_runFrom (i := 14) rfl) rfl ?_
      refine qr_cvi (n := 24) 1 [.int (x1 + x3_1)] (dkX9_runFrom (i := 15) rfl) rfl kvX9_34 rfl rfl (Nat.le_of_ble_eq_true rfl) rfl rfl lkO_1 rfl (wX8_byteAt G S0 (x1 + x3_1)) (fun r_1 => ?_)
      refine qr_csi (n := 27) [.int r_1] (dkX9_runFrom (i := 16) rfl) rfl kvX9_38 rfl rfl (Nat.le_of_ble_eq_true rfl) rfl rfl (wX9_sortOf G S0 r_1) (fun r_2 => ?_)
      refine qr_iload_n (n := 28) 2 (dkX9_runFrom (i := 17) rfl) rfl rfl ?_
      refine qr_icmp_ne (t := 37) (n := 31) (dkX9_runFrom (i := 18) rfl) (by decide) rfl ?_ ?_
      · refine qr_iload_n (n := 38) 3 (dkX9_runFrom (i := 21) rfl) rfl rfl ?_
        exact qr_iret (dkX9_runFrom (i := 22) rfl) rfl rfl
      · refine qr_iinc (n := 34) (v := 1) (lv2 := [(0, .ref (G.2.2.1 1)), (1, .int x1), (2, .int x2), (3, .int (x3_1 + 1))]) 3 [1, 2, 3, 0] (dkX9_runFrom (i := 19) rfl) rfl rfl (by decide) (by decide) rfl ?_
        refine qr_goto (n := 2) (dkX9_runFrom (i := 20) rfl) (by decide) ?_
        exact hself_1 (x3_1 + 1)
def tbJ0_coder_7d493 : List (Nat × Instr × Nat) := [(0, .getstatic 38, 3), (3, .ifCond .eq 10, 3), (6, .aload_n 0, 1), (7, .getfield 15, 3), (10, .goto 4, 3), (13, .iconst 1, 1), (14, .ireturn, 1)]
set_option maxRecDepth 20000 in
theorem daJ0_coder_7d493 : ∀ x ∈ tbJ0_coder_7d493, decode cJ0_coder_7d493 x.1 = .ok x.2 := by decide +kernel
theorem dkJ0_coder_7d493 {i pc n : Nat} {ins : Instr} (h : tbJ0_coder_7d493[i]? = some (pc, ins, n)) : decode cJ0_coder_7d493 pc = .ok (ins, n) := daJ0_coder_7d493 (pc, ins, n) (List.mem_of_getElem? h)
def fJ0_coder_7d493 (S0 : qv_St) (i : Nat) : Option Int32 :=
  if (1 : Int32) = 0 then
    qv_rn .byte 1 (some 1)
  else
    qv_rn .byte 0 (some 0)
set_option maxRecDepth 20000 in
set_option maxHeartbeats 4000000 in
theorem wJ0_coder_7d493 (G : qv_GT) (S0 : qv_St) (i : Nat) (hi : i < 2) : ∀ r, fJ0_coder_7d493 S0 i = some r → Cn G Lk yJ0_coder_7d493 cJ0_coder_7d493 1 (some .byte) 1 [.ref (G.2.2.1 (1000 + i))] S0 ((qe_i S0) r) := by
  refine cn_of (own := RJ0) (emb := (qe_i S0)) (lv := [(0, .ref (G.2.2.1 (1000 + i)))]) rfl rfl (Nat.le_of_ble_eq_true rfl) rfl (fun X => ?_)
  unfold fJ0_coder_7d493
  refine qr_gcs (n := 3) (dkJ0_coder_7d493 (i := 0) rfl) rfl kfJ0_38 ?_
  refine qr_if_eq (t := 13) (n := 6) (dkJ0_coder_7d493 (i := 1) rfl) (by decide) rfl ?_ ?_
  · refine qr_iconst (n := 14) 1 (dkJ0_coder_7d493 (i := 5) rfl) rfl (by decide) ?_
    exact qr_nretB (dkJ0_coder_7d493 (i := 6) rfl) rfl rfl
  · refine qr_aload_n (n := 7) 0 (dkJ0_coder_7d493 (i := 2) rfl) rfl rfl ?_
    refine qr_gC (n := 10) i (dkJ0_coder_7d493 (i := 3) rfl) rfl hi kfJ0_15 ?_
    refine qr_goto (n := 14) (dkJ0_coder_7d493 (i := 4) rfl) (by decide) ?_
    exact qr_nretB (dkJ0_coder_7d493 (i := 6) rfl) rfl rfl
def tbJ0_length_8abf5 : List (Nat × Instr × Nat) := [(0, .aload_n 0, 1), (1, .getfield 9, 3), (4, .arraylength, 1), (5, .aload_n 0, 1), (6, .invokevirtual 335, 3), (9, .ishr, 1), (10, .ireturn, 1)]
set_option maxRecDepth 20000 in
theorem daJ0_length_8abf5 : ∀ x ∈ tbJ0_length_8abf5, decode cJ0_length_8abf5 x.1 = .ok x.2 := by decide +kernel
theorem dkJ0_length_8abf5 {i pc n : Nat} {ins : Instr} (h : tbJ0_length_8abf5[i]? = some (pc, ins, n)) : decode cJ0_length_8abf5 pc = .ok (ins, n) := daJ0_length_8abf5 (pc, ins, n) (List.mem_of_getElem? h)
def fJ0_length_8abf5 (S0 : qv_St) (i : Nat) : Option Int32 :=
  (fJ0_coder_7d493 S0 i).bind fun r_1 =>
  some ((Int32.ofNat (qv_len.getD i 0)) >>> (r_1 &&& 31))
set_option maxRecDepth 20000 in
set_option maxHeartbeats 4000000 in
theorem wJ0_length_8abf5 (G : qv_GT) (S0 : qv_St) (i : Nat) (hi : i < 2) : ∀ r, fJ0_length_8abf5 S0 i = some r → Cn G Lk yJ0_length_8abf5 cJ0_length_8abf5 1 (some .int) 2 [.ref (G.2.2.1 (1000 + i))] S0 ((qe_i S0) r) := by
  refine cn_of (own := RJ0) (emb := (qe_i S0)) (lv := [(0, .ref (G.2.2.1 (1000 + i)))]) rfl rfl (Nat.le_of_ble_eq_true rfl) rfl (fun X => ?_)
  unfold fJ0_length_8abf5
  refine qr_aload_n (n := 1) 0 (dkJ0_length_8abf5 (i := 0) rfl) rfl rfl ?_
  refine qr_gV (n := 4) i (dkJ0_length_8abf5 (i := 1) rfl) rfl hi kfJ0_9 ?_
  refine qr_tlen (n := 5) i (dkJ0_length_8abf5 (i := 2) rfl) rfl hi ?_
  refine qr_aload_n (n := 6) 0 (dkJ0_length_8abf5 (i := 3) rfl) rfl rfl ?_
  refine qr_kvi (n := 9) i [] (dkJ0_length_8abf5 (i := 4) rfl) rfl kvJ0_335 rfl rfl (Nat.le_of_ble_eq_true rfl) rfl rfl hi rfl (wJ0_coder_7d493 G S0 i hi) (fun r_1 => ?_)
  refine qr_ishr (n := 10) (dkJ0_length_8abf5 (i := 5) rfl) rfl ?_
  exact qr_iret (dkJ0_length_8abf5 (i := 6) rfl) rfl rfl
def tbJ0_isLatin1_aae02 : List (Nat × Instr × Nat) := [(0, .getstatic 38, 3), (3, .ifCond .eq 14, 3), (6, .aload_n 0, 1), (7, .getfield 15, 3), (10, .ifCond .ne 7, 3), (13, .iconst 1, 1), (14, .goto 4, 3), (17, .iconst 0, 1), (18, .ireturn, 1)]
set_option maxRecDepth 20000 in
theorem daJ0_isLatin1_aae02 : ∀ x ∈ tbJ0_isLatin1_aae02, decode cJ0_isLatin1_aae02 x.1 = .ok x.2 := by decide +kernel
theorem dkJ0_isLatin1_aae02 {i pc n : Nat} {ins : Instr} (h : tbJ0_isLatin1_aae02[i]? = some (pc, ins, n)) : decode cJ0_isLatin1_aae02 pc = .ok (ins, n) := daJ0_isLatin1_aae02 (pc, ins, n) (List.mem_of_getElem? h)
def fJ0_isLatin1_aae02 (S0 : qv_St) (i : Nat) : Option Int32 :=
  qv_j (
    some 0) fun K_1 =>
  if (1 : Int32) = 0 then
    K_1
  else
    if (0 : Int32) = 0 then
      some 1
    else
      K_1
set_option maxRecDepth 20000 in
set_option maxHeartbeats 4000000 in
theorem wJ0_isLatin1_aae02 (G : qv_GT) (S0 : qv_St) (i : Nat) (hi : i < 2) : ∀ r, fJ0_isLatin1_aae02 S0 i = some r → Cn G Lk yJ0_isLatin1_aae02 cJ0_isLatin1_aae02 1 (some .boolean) 1 [.ref (G.2.2.1 (1000 + i))] S0 ((qe_i S0) r) := by
  refine cn_of (own := RJ0) (emb := (qe_i S0)) (lv := [(0, .ref (G.2.2.1 (1000 + i)))]) rfl rfl (Nat.le_of_ble_eq_true rfl) rfl (fun X => ?_)
  unfold fJ0_isLatin1_aae02
  refine qr_gcs (n := 3) (dkJ0_isLatin1_aae02 (i := 0) rfl) rfl kfJ0_38 ?_
  refine qr_j (fun K_1 : Option Int32 => VV G Lk X RJ0 cJ0_isLatin1_aae02 1 (some .boolean) 1 (qe_i S0) 17 [] [] S0 (K_1)) (?_) (fun K_1 hK_1 => ?_)
  · refine qr_iconst (n := 18) 0 (dkJ0_isLatin1_aae02 (i := 7) rfl) rfl (by decide) ?_
    exact qr_zretc (dkJ0_isLatin1_aae02 (i := 8) rfl) rfl rfl rfl
  · refine qr_if_eq (t := 17) (n := 6) (dkJ0_isLatin1_aae02 (i := 1) rfl) (by decide) rfl ?_ ?_
    · refine qr_sub [] rfl ?_
      exact hK_1
    · refine qr_aload_n (n := 7) 0 (dkJ0_isLatin1_aae02 (i := 2) rfl) rfl rfl ?_
      refine qr_gC (n := 10) i (dkJ0_isLatin1_aae02 (i := 3) rfl) rfl hi kfJ0_15 ?_
      refine qr_if_ne (t := 17) (n := 13) (dkJ0_isLatin1_aae02 (i := 4) rfl) (by decide) rfl ?_ ?_
      · refine qr_sub [] rfl ?_
        exact hK_1
      · refine qr_iconst (n := 14) 1 (dkJ0_isLatin1_aae02 (i := 5) rfl) rfl (by decide) ?_
        refine qr_goto (n := 18) (dkJ0_isLatin1_aae02 (i := 6) rfl) (by decide) ?_
        exact qr_zretc (dkJ0_isLatin1_aae02 (i := 8) rfl) rfl rfl rfl
def tbJ3_checkIndex_8e157 : List (Nat × Instr × Nat) := [(0, .iload_n 0, 1), (1, .ifCond .lt 8, 3), (4, .iload_n 0, 1), (5, .iload_n 1, 1), (6, .if_icmp .lt 10, 3), (9, .aload_n 2, 1), (10, .iload_n 0, 1), (11, .iload_n 1, 1), (12, .invokestatic 95, 3), (15, .athrow, 1), (16, .iload_n 0, 1), (17, .ireturn, 1)]
set_option maxRecDepth 20000 in
theorem daJ3_checkIndex_8e157 : ∀ x ∈ tbJ3_checkIndex_8e157, decode cJ3_checkIndex_8e157 x.1 = .ok x.2 := by decide +kernel
theorem dkJ3_checkIndex_8e157 {i pc n : Nat} {ins : Instr} (h : tbJ3_checkIndex_8e157[i]? = some (pc, ins, n)) : decode cJ3_checkIndex_8e157 pc = .ok (ins, n) := daJ3_checkIndex_8e157 (pc, ins, n) (List.mem_of_getElem? h)
def fJ3_checkIndex_8e157 (x0 : Int32) (x1 : Int32) : Option Int32 :=
  qv_j (
    none) fun K_1 =>
  if x0 < 0 then
    K_1
  else
    if x0 < x1 then
      some x0
    else
      K_1
set_option maxRecDepth 20000 in
set_option maxHeartbeats 4000000 in
theorem wJ3_checkIndex_8e157 (G : qv_GT) (S0 : qv_St) (x0 : Int32) (x1 : Int32) : ∀ r, fJ3_checkIndex_8e157 x0 x1 = some r → Cn G Lk yJ3_checkIndex_8e157 cJ3_checkIndex_8e157 3 (some .int) 1 [.int x0, .int x1, (qv_fm G)] S0 ((qe_i S0) r) := by
  refine cn_of (own := RJ3) (emb := (qe_i S0)) (lv := [(0, .int x0), (1, .int x1), (2, (qv_fm G))]) rfl rfl (by simp [lg_sl, qv_fm_cat, show ∀ x, (Value.int x).category = 1 from fun _ => rfl]) (by simp [lv_args, show ∀ x, (Value.int x).category = 1 from fun _ => rfl]) (fun X => ?_)
  unfold fJ3_checkIndex_8e157
  refine qr_iload_n (n := 1) 0 (dkJ3_checkIndex_8e157 (i := 0) rfl) rfl rfl ?_
  refine qr_j (fun K_1 : Option Int32 => VV G Lk X RJ3 cJ3_checkIndex_8e157 3 (some .int) 1 (qe_i S0) 9 [(0, .int x0), (1, .int x1), (2, (qv_fm G))] [] S0 (K_1)) (?_) (fun K_1 hK_1 => ?_)
  · exact qr_none
  · refine qr_if_lt (t := 9) (n := 4) (dkJ3_checkIndex_8e157 (i := 1) rfl) (by decide) rfl ?_ ?_
    · exact hK_1
    · refine qr_iload_n (n := 5) 0 (dkJ3_checkIndex_8e157 (i := 2) rfl) rfl rfl ?_
      refine qr_iload_n (n := 6) 1 (dkJ3_checkIndex_8e157 (i := 3) rfl) rfl rfl ?_
      refine qr_icmp_lt (t := 16) (n := 9) (dkJ3_checkIndex_8e157 (i := 4) rfl) (by decide) rfl ?_ ?_
      · refine qr_iload_n (n := 17) 0 (dkJ3_checkIndex_8e157 (i := 10) rfl) rfl rfl ?_
        exact qr_iret (dkJ3_checkIndex_8e157 (i := 11) rfl) rfl rfl
      · exact hK_1
def tbJ0_checkIndex_df160 : List (Nat × Instr × Nat) := [(0, .iload_n 0, 1), (1, .iload_n 1, 1), (2, .getstatic 1053, 3), (5, .invokestatic 1059, 3), (8, .pop, 1), (9, .return_, 1)]
set_option maxRecDepth 20000 in
theorem daJ0_checkIndex_df160 : ∀ x ∈ tbJ0_checkIndex_df160, decode cJ0_checkIndex_df160 x.1 = .ok x.2 := by decide +kernel
theorem dkJ0_checkIndex_df160 {i pc n : Nat} {ins : Instr} (h : tbJ0_checkIndex_df160[i]? = some (pc, ins, n)) : decode cJ0_checkIndex_df160 pc = .ok (ins, n) := daJ0_checkIndex_df160 (pc, ins, n) (List.mem_of_getElem? h)
def fJ0_checkIndex_df160 (x0 : Int32) (x1 : Int32) : Option Unit :=
  (fJ3_checkIndex_8e157 x0 x1).bind fun r_1 =>
  some ()
set_option maxRecDepth 20000 in
set_option maxHeartbeats 4000000 in
theorem wJ0_checkIndex_df160 (G : qv_GT) (S0 : qv_St) (x0 : Int32) (x1 : Int32) : ∀ r, fJ0_checkIndex_df160 x0 x1 = some r → Cn G Lk yJ0_checkIndex_df160 cJ0_checkIndex_df160 2 none 2 [.int x0, .int x1] S0 ((qe_p S0) r) := by
  refine cn_of (own := RJ0) (emb := (qe_p S0)) (lv := [(0, .int x0), (1, .int x1)]) rfl rfl (Nat.le_of_ble_eq_true rfl) rfl (fun X => ?_)
  unfold fJ0_checkIndex_df160
  refine qr_iload_n (n := 1) 0 (dkJ0_checkIndex_df160 (i := 0) rfl) rfl rfl ?_
  refine qr_iload_n (n := 2) 1 (dkJ0_checkIndex_df160 (i := 1) rfl) rfl rfl ?_
  refine qr_gfm (n := 5) (dkJ0_checkIndex_df160 (i := 2) rfl) rfl kfJ0_1053 ?_
  refine qr_csi (n := 8) [.int x0, .int x1, (qv_fm G)] (dkJ0_checkIndex_df160 (i := 3) rfl) rfl kvJ0_1059 rfl rfl (Nat.le_of_ble_eq_true rfl) rfl rfl (wJ3_checkIndex_8e157 G S0 x0 x1) (fun r_1 => ?_)
  refine qr_pop (n := 9) (dkJ0_checkIndex_df160 (i := 4) rfl) rfl rfl ?_
  exact qr_vret (dkJ0_checkIndex_df160 (i := 5) rfl) rfl rfl
def tbJ1_charAt_3b067 : List (Nat × Instr × Nat) := [(0, .iload_n 1, 1), (1, .aload_n 0, 1), (2, .arraylength, 1), (3, .invokestatic 9, 3), (6, .aload_n 0, 1), (7, .iload_n 1, 1), (8, .baload, 1), (9, .sipush 255, 3), (12, .iand, 1), (13, .i2c, 1), (14, .ireturn, 1)]
set_option maxRecDepth 20000 in
theorem daJ1_charAt_3b067 : ∀ x ∈ tbJ1_charAt_3b067, decode cJ1_charAt_3b067 x.1 = .ok x.2 := by decide +kernel
theorem dkJ1_charAt_3b067 {i pc n : Nat} {ins : Instr} (h : tbJ1_charAt_3b067[i]? = some (pc, ins, n)) : decode cJ1_charAt_3b067 pc = .ok (ins, n) := daJ1_charAt_3b067 (pc, ins, n) (List.mem_of_getElem? h)
def fJ1_charAt_3b067 (S0 : qv_St) (i : Nat) (x1 : Int32) : Option Int32 :=
  (fJ0_checkIndex_df160 x1 (Int32.ofNat (qv_len.getD i 0))).bind fun _ =>
  qv_ck x1 (qv_len.getD i 0) <|
  qv_rn .char ((Int32.toUInt32 (((qv_byt.getD i []).getD (Int32.toNatClampNeg x1) 0) &&& 255) % 65536).toInt32) (some ((Int32.toUInt32 (((qv_byt.getD i []).getD (Int32.toNatClampNeg x1) 0) &&& 255) % 65536).toInt32))
set_option maxRecDepth 20000 in
set_option maxHeartbeats 4000000 in
theorem wJ1_charAt_3b067 (G : qv_GT) (S0 : qv_St) (i : Nat) (x1 : Int32) (hi : i < 2) : ∀ r, fJ1_charAt_3b067 S0 i x1 = some r → Cn G Lk yJ1_charAt_3b067 cJ1_charAt_3b067 2 (some .char) 3 [.ref (G.2.2.1 (2000 + i)), .int x1] S0 ((qe_i S0) r) := by
  refine cn_of (own := RJ1) (emb := (qe_i S0)) (lv := [(0, .ref (G.2.2.1 (2000 + i))), (1, .int x1)]) rfl rfl (Nat.le_of_ble_eq_true rfl) rfl (fun X => ?_)
  unfold fJ1_charAt_3b067
  refine qr_iload_n (n := 1) 1 (dkJ1_charAt_3b067 (i := 0) rfl) rfl rfl ?_
  refine qr_aload_n (n := 2) 0 (dkJ1_charAt_3b067 (i := 1) rfl) rfl rfl ?_
  refine qr_tlen (n := 3) i (dkJ1_charAt_3b067 (i := 2) rfl) rfl hi ?_
  refine qr_csp (n := 6) [.int x1, .int (Int32.ofNat (qv_len.getD i 0))] (dkJ1_charAt_3b067 (i := 3) rfl) rfl kvJ1_9 rfl rfl (Nat.le_of_ble_eq_true rfl) rfl rfl (wJ0_checkIndex_df160 G S0 x1 (Int32.ofNat (qv_len.getD i 0))) ?_
  refine qr_aload_n (n := 7) 0 (dkJ1_charAt_3b067 (i := 4) rfl) rfl rfl ?_
  refine qr_iload_n (n := 8) 1 (dkJ1_charAt_3b067 (i := 5) rfl) rfl rfl ?_
  refine qr_tb (n := 9) i (dkJ1_charAt_3b067 (i := 6) rfl) rfl hi ?_
  refine qr_sipush (n := 12) 255 (dkJ1_charAt_3b067 (i := 7) rfl) rfl (by decide) ?_
  refine qr_iand (n := 13) (dkJ1_charAt_3b067 (i := 8) rfl) rfl ?_
  refine qr_i2c (n := 14) (dkJ1_charAt_3b067 (i := 9) rfl) rfl ?_
  exact qr_nretC (dkJ1_charAt_3b067 (i := 10) rfl) rfl rfl
def tbJ0_charAt_5068e : List (Nat × Instr × Nat) := [(0, .aload_n 0, 1), (1, .invokevirtual 492, 3), (4, .ifCond .eq 12, 3), (7, .aload_n 0, 1), (8, .getfield 9, 3), (11, .iload_n 1, 1), (12, .invokestatic 495, 3), (15, .ireturn, 1), (16, .aload_n 0, 1), (17, .getfield 9, 3), (20, .iload_n 1, 1), (21, .invokestatic 498, 3), (24, .ireturn, 1)]
set_option maxRecDepth 20000 in
theorem daJ0_charAt_5068e : ∀ x ∈ tbJ0_charAt_5068e, decode cJ0_charAt_5068e x.1 = .ok x.2 := by decide +kernel
theorem dkJ0_charAt_5068e {i pc n : Nat} {ins : Instr} (h : tbJ0_charAt_5068e[i]? = some (pc, ins, n)) : decode cJ0_charAt_5068e pc = .ok (ins, n) := daJ0_charAt_5068e (pc, ins, n) (List.mem_of_getElem? h)
def fJ0_charAt_5068e (S0 : qv_St) (i : Nat) (x1 : Int32) : Option Int32 :=
  (fJ0_isLatin1_aae02 S0 i).bind fun r_1 =>
  if r_1 = 0 then
    none
  else
    (fJ1_charAt_3b067 S0 i x1).bind fun r_2 =>
    qv_rn .char r_2 (some r_2)
set_option maxRecDepth 20000 in
set_option maxHeartbeats 4000000 in
theorem wJ0_charAt_5068e (G : qv_GT) (S0 : qv_St) (i : Nat) (x1 : Int32) (hi : i < 2) : ∀ r, fJ0_charAt_5068e S0 i x1 = some r → Cn G Lk yJ0_charAt_5068e cJ0_charAt_5068e 2 (some .char) 4 [.ref (G.2.2.1 (1000 + i)), .int x1] S0 ((qe_i S0) r) := by
  refine cn_of (own := RJ0) (emb := (qe_i S0)) (lv := [(0, .ref (G.2.2.1 (1000 + i))), (1, .int x1)]) rfl rfl (Nat.le_of_ble_eq_true rfl) rfl (fun X => ?_)
  unfold fJ0_charAt_5068e
  refine qr_aload_n (n := 1) 0 (dkJ0_charAt_5068e (i := 0) rfl) rfl rfl ?_
  refine qr_kvi (n := 4) i [] (dkJ0_charAt_5068e (i := 1) rfl) rfl kvJ0_492 rfl rfl (Nat.le_of_ble_eq_true rfl) rfl rfl hi rfl (wJ0_isLatin1_aae02 G S0 i hi) (fun r_1 => ?_)
  refine qr_if_eq (t := 16) (n := 7) (dkJ0_charAt_5068e (i := 2) rfl) (by decide) rfl ?_ ?_
  · refine qr_aload_n (n := 17) 0 (dkJ0_charAt_5068e (i := 8) rfl) rfl rfl ?_
    refine qr_gV (n := 20) i (dkJ0_charAt_5068e (i := 9) rfl) rfl hi kfJ0_9 ?_
    refine qr_iload_n (n := 21) 1 (dkJ0_charAt_5068e (i := 10) rfl) rfl rfl ?_
    exact qr_none
  · refine qr_aload_n (n := 8) 0 (dkJ0_charAt_5068e (i := 3) rfl) rfl rfl ?_
    refine qr_gV (n := 11) i (dkJ0_charAt_5068e (i := 4) rfl) rfl hi kfJ0_9 ?_
    refine qr_iload_n (n := 12) 1 (dkJ0_charAt_5068e (i := 5) rfl) rfl rfl ?_
    refine qr_csi (n := 15) [.ref (G.2.2.1 (2000 + i)), .int x1] (dkJ0_charAt_5068e (i := 6) rfl) rfl kvJ0_495 rfl rfl (Nat.le_of_ble_eq_true rfl) rfl rfl (wJ1_charAt_3b067 G S0 i x1 hi) (fun r_2 => ?_)
    exact qr_nretC (dkJ0_charAt_5068e (i := 7) rfl) rfl rfl
def tbX9_isWord : List (Nat × Instr × Nat) := [(0, .iload_n 0, 1), (1, .bipush 8, 2), (3, .imul, 1), (4, .istore 4, 2), (6, .iload 4, 2), (8, .bipush 8, 2), (10, .iadd, 1), (11, .ldc 77, 2), (13, .invokevirtual 79, 3), (16, .if_icmp .le 5, 3), (19, .iconst 0, 1), (20, .ireturn, 1), (21, .iconst 0, 1), (22, .istore 5, 2), (24, .iload 5, 2), (26, .bipush 8, 2), (28, .if_icmp .ge 47, 3), (31, .iload 5, 2), (33, .iload_n 3, 1), (34, .if_icmp .ge 14, 3), (37, .aload_n 1, 1), (38, .iload_n 2, 1), (39, .iload 5, 2), (41, .iadd, 1), (42, .invokevirtual 34, 3), (45, .goto 5, 3), (48, .bipush 32, 2), (50, .istore 6, 2), (52, .ldc 77, 2), (54, .iload 4, 2), (56, .iload 5, 2), (58, .iadd, 1), (59, .invokevirtual 82, 3), (62, .iload 6, 2), (64, .if_icmp .eq 5, 3), (67, .iconst 0, 1), (68, .ireturn, 1), (69, .iinc 5 1, 3), (72, .goto (-48), 3), (75, .iconst 1, 1), (76, .ireturn, 1)]
set_option maxRecDepth 20000 in
theorem daX9_isWord : ∀ x ∈ tbX9_isWord, decode cX9_isWord x.1 = .ok x.2 := by decide +kernel
theorem dkX9_isWord {i pc n : Nat} {ins : Instr} (h : tbX9_isWord[i]? = some (pc, ins, n)) : decode cX9_isWord pc = .ok (ins, n) := daX9_isWord (pc, ins, n) (List.mem_of_getElem? h)
def fX9_isWord (S0 : qv_St) (x0 : Int32) (x2 : Int32) (x3 : Int32) : Option Int32 :=
  qv_b ((x0 * 8) : Int32) fun x4_1 =>
  (fJ0_length_8abf5 S0 1).bind fun r_1 =>
  if (x4_1 + 8) ≤ r_1 then
    qv_lp1 qv_N (fun self_1 (x5_1 : Int32) =>
      if 8 ≤ x5_1 then
        some 1
      else
        qv_j (fun (t_1 : Int32) =>
          (fJ0_charAt_5068e S0 1 (x4_1 + x5_1)).bind fun r_2 =>
          if r_2 = t_1 then
            self_1 (x5_1 + 1)
          else
            some 0) fun K_1 =>
        if x3 ≤ x5_1 then
          K_1 32
        else
          (fX8_byteAt S0 (x2 + x5_1)).bind fun r_3 =>
          K_1 r_3) 0
  else
    some 0
set_option maxRecDepth 20000 in
set_option maxHeartbeats 4000000 in
theorem wX9_isWord (G : qv_GT) (S0 : qv_St) (x0 : Int32) (x2 : Int32) (x3 : Int32) : ∀ r, fX9_isWord S0 x0 x2 x3 = some r → Cn G Lk yX9_isWord cX9_isWord 7 (some .boolean) 5 [.int x0, .ref (G.2.2.1 1), .int x2, .int x3] S0 ((qe_i S0) r) := by
  refine cn_of (own := RX9) (emb := (qe_i S0)) (lv := [(0, .int x0), (1, .ref (G.2.2.1 1)), (2, .int x2), (3, .int x3)]) rfl rfl (Nat.le_of_ble_eq_true rfl) rfl (fun X => ?_)
  unfold fX9_isWord
  refine qr_iload_n (n := 1) 0 (dkX9_isWord (i := 0) rfl) rfl rfl ?_
  refine qr_bipush (n := 3) 8 (dkX9_isWord (i := 1) rfl) rfl (by decide) ?_
  refine qr_imul (n := 4) (dkX9_isWord (i := 2) rfl) rfl ?_
  refine qr_b (α := Int32) (x0 * 8) (lvf := fun _ => [(0, .int x0), (1, .ref (G.2.2.1 1)), (2, .int x2), (3, .int x3)]) (stf := fun z => .int z :: []) (Sf := fun _ => S0) (fun x4_1 => ?_)
  refine qr_istore (n := 6) (lv2 := [(0, .int x0), (1, .ref (G.2.2.1 1)), (2, .int x2), (3, .int x3), (4, .int x4_1)]) [1, 2, 3, 4, 0] (dkX9_isWord (i := 3) rfl) rfl (by decide) rfl ?_
  refine qr_iload (n := 8) 4 (dkX9_isWord (i := 4) rfl) rfl rfl ?_
  refine qr_bipush (n := 10) 8 (dkX9_isWord (i := 5) rfl) rfl (by decide) ?_
  refine qr_iadd (n := 11) (dkX9_isWord (i := 6) rfl) rfl ?_
  refine qr_ldcS1 (n := 13) (dkX9_isWord (i := 7) rfl) rfl rfl ?_
  refine qr_kvi (n := 16) 1 [] (dkX9_isWord (i := 8) rfl) rfl kvX9_79 rfl rfl (Nat.le_of_ble_eq_true rfl) rfl rfl (by decide) rfl (wJ0_length_8abf5 G S0 1 (by decide)) (fun r_1 => ?_)
  refine qr_icmp_le (t := 21) (n := 19) (dkX9_isWord (i := 9) rfl) (by decide) rfl ?_ ?_
  · refine qr_iconst (n := 22) 0 (dkX9_isWord (i := 12) rfl) rfl (by decide) ?_
    refine qr_istore (n := 24) (lv2 := [(0, .int x0), (1, .ref (G.2.2.1 1)), (2, .int x2), (3, .int x3), (4, .int x4_1), (5, .int 0)]) [1, 2, 3, 4, 5, 0] (dkX9_isWord (i := 13) rfl) rfl (by decide) rfl ?_
    refine qr_sub [1, 2, 3, 4, 5] rfl ?_
    refine qr_lp1 (fun (x5_1 : Int32) => [(1, .ref (G.2.2.1 1)), (2, .int x2), (3, .int x3), (4, .int x4_1), (5, .int x5_1)]) (fun (x5_1 : Int32) => S0) (fun self_1 hself_1 x5_1 => ?_) qv_N 0
    refine qr_iload (n := 26) 4 (dkX9_isWord (i := 14) rfl) rfl rfl ?_
    refine qr_bipush (n := 28) 8 (dkX9_isWord (i := 15) rfl) rfl (by decide) ?_
    refine qr_icmp_ge (t := 75) (n := 31) (dkX9_isWord (i := 16) rfl) (by decide) rfl ?_ ?_
    · refine qr_iconst (n := 76) 1 (dkX9_isWord (i := 39) rfl) rfl (by decide) ?_
      exact qr_zretc (dkX9_isWord (i := 40) rfl) rfl rfl rfl
    · refine qr_iload (n := 33) 4 (dkX9_isWord (i := 17) rfl) rfl rfl ?_
      refine qr_iload_n (n := 34) 2 (dkX9_isWord (i := 18) rfl) rfl rfl ?_
      refine qr_j (fun K_1 : Int32 → Option Int32 => ∀ (t_1 : Int32), VV G Lk X RX9 cX9_isWord 7 (some .boolean) 5 (qe_i S0) 50 [(1, .ref (G.2.2.1 1)), (2, .int x2), (3, .int x3), (4, .int x4_1), (5, .int x5_1)] [.int t_1] S0 (K_1 t_1)) (fun t_1 => ?_) (fun K_1 hK_1 => ?_)
      · refine qr_istore (n := 52) (lv2 := [(1, .ref (G.2.2.1 1)), (2, .int x2), (3, .int x3), (4, .int x4_1), (5, .int x5_1), (6, .int t_1)]) [1, 2, 3, 4, 5, 0] (dkX9_isWord (i := 27) rfl) rfl (by decide) rfl ?_
        refine qr_ldcS1 (n := 54) (dkX9_isWord (i := 28) rfl) rfl rfl ?_
        refine qr_iload (n := 56) 3 (dkX9_isWord (i := 29) rfl) rfl rfl ?_
        refine qr_iload (n := 58) 4 (dkX9_isWord (i := 30) rfl) rfl rfl ?_
        refine qr_iadd (n := 59) (dkX9_isWord (i := 31) rfl) rfl ?_
        refine qr_kvi (n := 62) 1 [.int (x4_1 + x5_1)] (dkX9_isWord (i := 32) rfl) rfl kvX9_82 rfl rfl (Nat.le_of_ble_eq_true rfl) rfl rfl (by decide) rfl (wJ0_charAt_5068e G S0 1 (x4_1 + x5_1) (by decide)) (fun r_2 => ?_)
        refine qr_iload (n := 64) 5 (dkX9_isWord (i := 33) rfl) rfl rfl ?_
        refine qr_icmp_eq (t := 69) (n := 67) (dkX9_isWord (i := 34) rfl) (by decide) rfl ?_ ?_
        · refine qr_iinc (n := 72) (v := 1) (lv2 := [(1, .ref (G.2.2.1 1)), (2, .int x2), (3, .int x3), (4, .int x4_1), (5, .int (x5_1 + 1)), (6, .int t_1)]) 4 [1, 2, 3, 4, 0, 5] (dkX9_isWord (i := 37) rfl) rfl rfl (by decide) (by decide) rfl ?_
          refine qr_goto (n := 24) (dkX9_isWord (i := 38) rfl) (by decide) ?_
          refine qr_sub [0, 1, 2, 3, 4] rfl ?_
          exact hself_1 (x5_1 + 1)
        · refine qr_iconst (n := 68) 0 (dkX9_isWord (i := 35) rfl) rfl (by decide) ?_
          exact qr_zretc (dkX9_isWord (i := 36) rfl) rfl rfl rfl
      · refine qr_icmp_ge (t := 48) (n := 37) (dkX9_isWord (i := 19) rfl) (by decide) rfl ?_ ?_
        · refine qr_bipush (n := 50) 32 (dkX9_isWord (i := 26) rfl) rfl (by decide) ?_
          exact hK_1 32
        · refine qr_aload_n (n := 38) 0 (dkX9_isWord (i := 20) rfl) rfl rfl ?_
          refine qr_iload_n (n := 39) 1 (dkX9_isWord (i := 21) rfl) rfl rfl ?_
          refine qr_iload (n := 41) 4 (dkX9_isWord (i := 22) rfl) rfl rfl ?_
          refine qr_iadd (n := 42) (dkX9_isWord (i := 23) rfl) rfl ?_
          refine qr_cvi (n := 45) 1 [.int (x2 + x5_1)] (dkX9_isWord (i := 24) rfl) rfl kvX9_34 rfl rfl (Nat.le_of_ble_eq_true rfl) rfl rfl lkO_1 rfl (wX8_byteAt G S0 (x2 + x5_1)) (fun r_3 => ?_)
          refine qr_goto (n := 50) (dkX9_isWord (i := 25) rfl) (by decide) ?_
          exact hK_1 r_3
  · refine qr_iconst (n := 20) 0 (dkX9_isWord (i := 10) rfl) rfl (by decide) ?_
    exact qr_zretc (dkX9_isWord (i := 11) rfl) rfl rfl rfl
def tbX9_wordOrName : List (Nat × Instr × Nat) := [(0, .iconst 0, 1), (1, .istore_n 3, 1), (2, .iload_n 3, 1), (3, .bipush 22, 2), (5, .if_icmp .ge 21, 3), (8, .iload_n 3, 1), (9, .aload_n 0, 1), (10, .iload_n 1, 1), (11, .iload_n 2, 1), (12, .invokestatic 73, 3), (15, .ifCond .eq 5, 3), (18, .iload_n 3, 1), (19, .ireturn, 1), (20, .iinc 3 1, 3), (23, .goto (-21), 3), (26, .bipush 22, 2), (28, .ireturn, 1)]
set_option maxRecDepth 20000 in
theorem daX9_wordOrName : ∀ x ∈ tbX9_wordOrName, decode cX9_wordOrName x.1 = .ok x.2 := by decide +kernel
theorem dkX9_wordOrName {i pc n : Nat} {ins : Instr} (h : tbX9_wordOrName[i]? = some (pc, ins, n)) : decode cX9_wordOrName pc = .ok (ins, n) := daX9_wordOrName (pc, ins, n) (List.mem_of_getElem? h)
def fX9_wordOrName (S0 : qv_St) (x1 : Int32) (x2 : Int32) : Option Int32 :=
  qv_lp1 qv_N (fun self_1 (x3_1 : Int32) =>
    if 22 ≤ x3_1 then
      some 22
    else
      (fX9_isWord S0 x3_1 x1 x2).bind fun r_1 =>
      if r_1 = 0 then
        self_1 (x3_1 + 1)
      else
        some x3_1) 0
set_option maxRecDepth 20000 in
set_option maxHeartbeats 4000000 in
theorem wX9_wordOrName (G : qv_GT) (S0 : qv_St) (x1 : Int32) (x2 : Int32) : ∀ r, fX9_wordOrName S0 x1 x2 = some r → Cn G Lk yX9_wordOrName cX9_wordOrName 4 (some .int) 6 [.ref (G.2.2.1 1), .int x1, .int x2] S0 ((qe_i S0) r) := by
  refine cn_of (own := RX9) (emb := (qe_i S0)) (lv := [(0, .ref (G.2.2.1 1)), (1, .int x1), (2, .int x2)]) rfl rfl (Nat.le_of_ble_eq_true rfl) rfl (fun X => ?_)
  unfold fX9_wordOrName
  refine qr_iconst (n := 1) 0 (dkX9_wordOrName (i := 0) rfl) rfl (by decide) ?_
  refine qr_istore_n (n := 2) (lv2 := [(0, .ref (G.2.2.1 1)), (1, .int x1), (2, .int x2), (3, .int 0)]) [1, 2, 3, 0] (dkX9_wordOrName (i := 1) rfl) rfl rfl (by decide) rfl ?_
  refine qr_lp1 (fun (x3_1 : Int32) => [(0, .ref (G.2.2.1 1)), (1, .int x1), (2, .int x2), (3, .int x3_1)]) (fun (x3_1 : Int32) => S0) (fun self_1 hself_1 x3_1 => ?_) qv_N 0
  refine qr_iload_n (n := 3) 3 (dkX9_wordOrName (i := 2) rfl) rfl rfl ?_
  refine qr_bipush (n := 5) 22 (dkX9_wordOrName (i := 3) rfl) rfl (by decide) ?_
  refine qr_icmp_ge (t := 26) (n := 8) (dkX9_wordOrName (i := 4) rfl) (by decide) rfl ?_ ?_
  · refine qr_bipush (n := 28) 22 (dkX9_wordOrName (i := 15) rfl) rfl (by decide) ?_
    exact qr_iret (dkX9_wordOrName (i := 16) rfl) rfl rfl
  · refine qr_iload_n (n := 9) 3 (dkX9_wordOrName (i := 5) rfl) rfl rfl ?_
    refine qr_aload_n (n := 10) 0 (dkX9_wordOrName (i := 6) rfl) rfl rfl ?_
    refine qr_iload_n (n := 11) 1 (dkX9_wordOrName (i := 7) rfl) rfl rfl ?_
    refine qr_iload_n (n := 12) 2 (dkX9_wordOrName (i := 8) rfl) rfl rfl ?_
    refine qr_csi (n := 15) [.int x3_1, .ref (G.2.2.1 1), .int x1, .int x2] (dkX9_wordOrName (i := 9) rfl) rfl kvX9_73 rfl rfl (Nat.le_of_ble_eq_true rfl) rfl rfl (wX9_isWord G S0 x3_1 x1 x2) (fun r_1 => ?_)
    refine qr_if_eq (t := 20) (n := 18) (dkX9_wordOrName (i := 10) rfl) (by decide) rfl ?_ ?_
    · refine qr_iinc (n := 23) (v := 1) (lv2 := [(0, .ref (G.2.2.1 1)), (1, .int x1), (2, .int x2), (3, .int (x3_1 + 1))]) 3 [1, 2, 3, 0] (dkX9_wordOrName (i := 13) rfl) rfl rfl (by decide) (by decide) rfl ?_
      refine qr_goto (n := 2) (dkX9_wordOrName (i := 14) rfl) (by decide) ?_
      exact hself_1 (x3_1 + 1)
    · refine qr_iload_n (n := 19) 3 (dkX9_wordOrName (i := 11) rfl) rfl rfl ?_
      exact qr_iret (dkX9_wordOrName (i := 12) rfl) rfl rfl
def tbJ1_canEncode_9a6ad : List (Nat × Instr × Nat) := [(0, .iload_n 0, 1), (1, .ifCond .lt 14, 3), (4, .iload_n 0, 1), (5, .sipush 255, 3), (8, .if_icmp .gt 7, 3), (11, .iconst 1, 1), (12, .goto 4, 3), (15, .iconst 0, 1), (16, .ireturn, 1)]
set_option maxRecDepth 20000 in
theorem daJ1_canEncode_9a6ad : ∀ x ∈ tbJ1_canEncode_9a6ad, decode cJ1_canEncode_9a6ad x.1 = .ok x.2 := by decide +kernel
theorem dkJ1_canEncode_9a6ad {i pc n : Nat} {ins : Instr} (h : tbJ1_canEncode_9a6ad[i]? = some (pc, ins, n)) : decode cJ1_canEncode_9a6ad pc = .ok (ins, n) := daJ1_canEncode_9a6ad (pc, ins, n) (List.mem_of_getElem? h)
def fJ1_canEncode_9a6ad (x0 : Int32) : Option Int32 :=
  qv_j (
    some 0) fun K_1 =>
  if x0 < 0 then
    K_1
  else
    if 255 < x0 then
      K_1
    else
      some 1
set_option maxRecDepth 20000 in
set_option maxHeartbeats 4000000 in
theorem wJ1_canEncode_9a6ad (G : qv_GT) (S0 : qv_St) (x0 : Int32) : ∀ r, fJ1_canEncode_9a6ad x0 = some r → Cn G Lk yJ1_canEncode_9a6ad cJ1_canEncode_9a6ad 1 (some .boolean) 1 [.int x0] S0 ((qe_i S0) r) := by
  refine cn_of (own := RJ1) (emb := (qe_i S0)) (lv := [(0, .int x0)]) rfl rfl (Nat.le_of_ble_eq_true rfl) rfl (fun X => ?_)
  unfold fJ1_canEncode_9a6ad
  refine qr_iload_n (n := 1) 0 (dkJ1_canEncode_9a6ad (i := 0) rfl) rfl rfl ?_
  refine qr_j (fun K_1 : Option Int32 => VV G Lk X RJ1 cJ1_canEncode_9a6ad 1 (some .boolean) 1 (qe_i S0) 15 [] [] S0 (K_1)) (?_) (fun K_1 hK_1 => ?_)
  · refine qr_iconst (n := 16) 0 (dkJ1_canEncode_9a6ad (i := 7) rfl) rfl (by decide) ?_
    exact qr_zretc (dkJ1_canEncode_9a6ad (i := 8) rfl) rfl rfl rfl
  · refine qr_if_lt (t := 15) (n := 4) (dkJ1_canEncode_9a6ad (i := 1) rfl) (by decide) rfl ?_ ?_
    · refine qr_sub [] rfl ?_
      exact hK_1
    · refine qr_iload_n (n := 5) 0 (dkJ1_canEncode_9a6ad (i := 2) rfl) rfl rfl ?_
      refine qr_sipush (n := 8) 255 (dkJ1_canEncode_9a6ad (i := 3) rfl) rfl (by decide) ?_
      refine qr_icmp_gt (t := 15) (n := 11) (dkJ1_canEncode_9a6ad (i := 4) rfl) (by decide) rfl ?_ ?_
      · refine qr_sub [] rfl ?_
        exact hK_1
      · refine qr_iconst (n := 12) 1 (dkJ1_canEncode_9a6ad (i := 5) rfl) rfl (by decide) ?_
        refine qr_goto (n := 16) (dkJ1_canEncode_9a6ad (i := 6) rfl) (by decide) ?_
        exact qr_zretc (dkJ1_canEncode_9a6ad (i := 8) rfl) rfl rfl rfl
def tbJ1_indexOfChar_4cfef : List (Nat × Instr × Nat) := [(0, .iload_n 1, 1), (1, .i2b, 1), (2, .istore 4, 2), (4, .iload_n 2, 1), (5, .istore 5, 2), (7, .iload 5, 2), (9, .iload_n 3, 1), (10, .if_icmp .ge 21, 3), (13, .aload_n 0, 1), (14, .iload 5, 2), (16, .baload, 1), (17, .iload 4, 2), (19, .if_icmp .ne 6, 3), (22, .iload 5, 2), (24, .ireturn, 1), (25, .iinc 5 1, 3), (28, .goto (-21), 3), (31, .iconst (-1), 1), (32, .ireturn, 1)]
set_option maxRecDepth 20000 in
theorem daJ1_indexOfChar_4cfef : ∀ x ∈ tbJ1_indexOfChar_4cfef, decode cJ1_indexOfChar_4cfef x.1 = .ok x.2 := by decide +kernel
theorem dkJ1_indexOfChar_4cfef {i pc n : Nat} {ins : Instr} (h : tbJ1_indexOfChar_4cfef[i]? = some (pc, ins, n)) : decode cJ1_indexOfChar_4cfef pc = .ok (ins, n) := daJ1_indexOfChar_4cfef (pc, ins, n) (List.mem_of_getElem? h)
def fJ1_indexOfChar_4cfef (S0 : qv_St) (i : Nat) (x1 : Int32) (x2 : Int32) (x3 : Int32) : Option Int32 :=
  qv_b ((Int32.toInt8 x1).toInt32 : Int32) fun x4_1 =>
  qv_lp1 qv_N (fun self_1 (x5_1 : Int32) =>
    if x3 ≤ x5_1 then
      some (-1)
    else
      qv_ck x5_1 (qv_len.getD i 0) <|
      if ((qv_byt.getD i []).getD (Int32.toNatClampNeg x5_1) 0) = x4_1 then
        some x5_1
      else
        self_1 (x5_1 + 1)) x2
set_option maxRecDepth 20000 in
set_option maxHeartbeats 4000000 in
theorem wJ1_indexOfChar_4cfef (G : qv_GT) (S0 : qv_St) (i : Nat) (x1 : Int32) (x2 : Int32) (x3 : Int32) (hi : i < 2) : ∀ r, fJ1_indexOfChar_4cfef S0 i x1 x2 x3 = some r → Cn G Lk yJ1_indexOfChar_4cfef cJ1_indexOfChar_4cfef 6 (some .int) 1 [.ref (G.2.2.1 (2000 + i)), .int x1, .int x2, .int x3] S0 ((qe_i S0) r) := by
  refine cn_of (own := RJ1) (emb := (qe_i S0)) (lv := [(0, .ref (G.2.2.1 (2000 + i))), (1, .int x1), (2, .int x2), (3, .int x3)]) rfl rfl (Nat.le_of_ble_eq_true rfl) rfl (fun X => ?_)
  unfold fJ1_indexOfChar_4cfef
  refine qr_iload_n (n := 1) 1 (dkJ1_indexOfChar_4cfef (i := 0) rfl) rfl rfl ?_
  refine qr_i2b (n := 2) (dkJ1_indexOfChar_4cfef (i := 1) rfl) rfl ?_
  refine qr_b (α := Int32) ((Int32.toInt8 x1).toInt32) (lvf := fun _ => [(0, .ref (G.2.2.1 (2000 + i))), (1, .int x1), (2, .int x2), (3, .int x3)]) (stf := fun z => .int z :: []) (Sf := fun _ => S0) (fun x4_1 => ?_)
  refine qr_istore (n := 4) (lv2 := [(0, .ref (G.2.2.1 (2000 + i))), (1, .int x1), (2, .int x2), (3, .int x3), (4, .int x4_1)]) [1, 2, 3, 4, 0] (dkJ1_indexOfChar_4cfef (i := 2) rfl) rfl (by decide) rfl ?_
  refine qr_iload_n (n := 5) 2 (dkJ1_indexOfChar_4cfef (i := 3) rfl) rfl rfl ?_
  refine qr_istore (n := 7) (lv2 := [(0, .ref (G.2.2.1 (2000 + i))), (1, .int x1), (2, .int x2), (3, .int x3), (4, .int x4_1), (5, .int x2)]) [1, 2, 3, 4, 5, 0] (dkJ1_indexOfChar_4cfef (i := 4) rfl) rfl (by decide) rfl ?_
  refine qr_sub [0, 3, 4, 5] rfl ?_
  refine qr_lp1 (fun (x5_1 : Int32) => [(0, .ref (G.2.2.1 (2000 + i))), (3, .int x3), (4, .int x4_1), (5, .int x5_1)]) (fun (x5_1 : Int32) => S0) (fun self_1 hself_1 x5_1 => ?_) qv_N x2
  refine qr_iload (n := 9) 3 (dkJ1_indexOfChar_4cfef (i := 5) rfl) rfl rfl ?_
  refine qr_iload_n (n := 10) 1 (dkJ1_indexOfChar_4cfef (i := 6) rfl) rfl rfl ?_
  refine qr_icmp_ge (t := 31) (n := 13) (dkJ1_indexOfChar_4cfef (i := 7) rfl) (by decide) rfl ?_ ?_
  · refine qr_iconst (n := 32) (-1) (dkJ1_indexOfChar_4cfef (i := 17) rfl) rfl (by decide) ?_
    exact qr_iret (dkJ1_indexOfChar_4cfef (i := 18) rfl) rfl rfl
  · refine qr_aload_n (n := 14) 0 (dkJ1_indexOfChar_4cfef (i := 8) rfl) rfl rfl ?_
    refine qr_iload (n := 16) 3 (dkJ1_indexOfChar_4cfef (i := 9) rfl) rfl rfl ?_
    refine qr_tb (n := 17) i (dkJ1_indexOfChar_4cfef (i := 10) rfl) rfl hi ?_
    refine qr_iload (n := 19) 2 (dkJ1_indexOfChar_4cfef (i := 11) rfl) rfl rfl ?_
    refine qr_icmp_ne (t := 25) (n := 22) (dkJ1_indexOfChar_4cfef (i := 12) rfl) (by decide) rfl ?_ ?_
    · refine qr_iinc (n := 28) (v := 1) (lv2 := [(0, .ref (G.2.2.1 (2000 + i))), (3, .int x3), (4, .int x4_1), (5, .int (x5_1 + 1))]) 3 [1, 2, 3, 0] (dkJ1_indexOfChar_4cfef (i := 15) rfl) rfl rfl (by decide) (by decide) rfl ?_
      refine qr_goto (n := 7) (dkJ1_indexOfChar_4cfef (i := 16) rfl) (by decide) ?_
      exact hself_1 (x5_1 + 1)
    · refine qr_iload (n := 24) 3 (dkJ1_indexOfChar_4cfef (i := 13) rfl) rfl rfl ?_
      exact qr_iret (dkJ1_indexOfChar_4cfef (i := 14) rfl) rfl rfl
def tbJ1_indexOf_4cfef : List (Nat × Instr × Nat) := [(0, .iload_n 1, 1), (1, .invokestatic 88, 3), (4, .ifCond .ne 5, 3), (7, .iconst (-1), 1), (8, .ireturn, 1), (9, .iload_n 2, 1), (10, .iconst 0, 1), (11, .invokestatic 92, 3), (14, .istore_n 2, 1), (15, .iload_n 3, 1), (16, .aload_n 0, 1), (17, .arraylength, 1), (18, .invokestatic 38, 3), (21, .istore_n 3, 1), (22, .iload_n 2, 1), (23, .iload_n 3, 1), (24, .if_icmp .lt 5, 3), (27, .iconst (-1), 1), (28, .ireturn, 1), (29, .aload_n 0, 1), (30, .iload_n 1, 1), (31, .iload_n 2, 1), (32, .iload_n 3, 1), (33, .invokestatic 95, 3), (36, .ireturn, 1)]
set_option maxRecDepth 20000 in
theorem daJ1_indexOf_4cfef : ∀ x ∈ tbJ1_indexOf_4cfef, decode cJ1_indexOf_4cfef x.1 = .ok x.2 := by decide +kernel
theorem dkJ1_indexOf_4cfef {i pc n : Nat} {ins : Instr} (h : tbJ1_indexOf_4cfef[i]? = some (pc, ins, n)) : decode cJ1_indexOf_4cfef pc = .ok (ins, n) := daJ1_indexOf_4cfef (pc, ins, n) (List.mem_of_getElem? h)
def fJ1_indexOf_4cfef (S0 : qv_St) (i : Nat) (x1 : Int32) (x2 : Int32) (x3 : Int32) : Option Int32 :=
  (fJ1_canEncode_9a6ad x1).bind fun r_1 =>
  if r_1 = 0 then
    some (-1)
  else
    qv_b ((qv_mx x2 0) : Int32) fun x2_1 =>
    qv_b ((qv_mn x3 (Int32.ofNat (qv_len.getD i 0))) : Int32) fun x3_1 =>
    if x2_1 < x3_1 then
      (fJ1_indexOfChar_4cfef S0 i x1 x2_1 x3_1).bind fun r_2 =>
      some r_2
    else
      some (-1)
set_option maxRecDepth 20000 in
set_option maxHeartbeats 4000000 in
theorem wJ1_indexOf_4cfef (G : qv_GT) (S0 : qv_St) (i : Nat) (x1 : Int32) (x2 : Int32) (x3 : Int32) (hi : i < 2) : ∀ r, fJ1_indexOf_4cfef S0 i x1 x2 x3 = some r → Cn G Lk yJ1_indexOf_4cfef cJ1_indexOf_4cfef 4 (some .int) 2 [.ref (G.2.2.1 (2000 + i)), .int x1, .int x2, .int x3] S0 ((qe_i S0) r) := by
  refine cn_of (own := RJ1) (emb := (qe_i S0)) (lv := [(0, .ref (G.2.2.1 (2000 + i))), (1, .int x1), (2, .int x2), (3, .int x3)]) rfl rfl (Nat.le_of_ble_eq_true rfl) rfl (fun X => ?_)
  unfold fJ1_indexOf_4cfef
  refine qr_iload_n (n := 1) 1 (dkJ1_indexOf_4cfef (i := 0) rfl) rfl rfl ?_
  refine qr_csi (n := 4) [.int x1] (dkJ1_indexOf_4cfef (i := 1) rfl) rfl kvJ1_88 rfl rfl (Nat.le_of_ble_eq_true rfl) rfl rfl (wJ1_canEncode_9a6ad G S0 x1) (fun r_1 => ?_)
  refine qr_if_ne (t := 9) (n := 7) (dkJ1_indexOf_4cfef (i := 2) rfl) (by decide) rfl ?_ ?_
  · refine qr_iload_n (n := 10) 2 (dkJ1_indexOf_4cfef (i := 5) rfl) rfl rfl ?_
    refine qr_iconst (n := 11) 0 (dkJ1_indexOf_4cfef (i := 6) rfl) rfl (by decide) ?_
    refine qr_max (n := 14) (dkJ1_indexOf_4cfef (i := 7) rfl) rfl kmJ1_92 kmhmax1 kmh2 kmhmax3 rfl (Nat.le_of_ble_eq_true rfl) ?_
    refine qr_b (α := Int32) (qv_mx x2 0) (lvf := fun _ => [(0, .ref (G.2.2.1 (2000 + i))), (1, .int x1), (2, .int x2), (3, .int x3)]) (stf := fun z => .int z :: []) (Sf := fun _ => S0) (fun x2_1 => ?_)
    refine qr_istore_n (n := 15) (lv2 := [(0, .ref (G.2.2.1 (2000 + i))), (1, .int x1), (2, .int x2_1), (3, .int x3)]) [1, 2, 0, 3] (dkJ1_indexOf_4cfef (i := 8) rfl) rfl rfl (by decide) rfl ?_
    refine qr_iload_n (n := 16) 3 (dkJ1_indexOf_4cfef (i := 9) rfl) rfl rfl ?_
    refine qr_aload_n (n := 17) 0 (dkJ1_indexOf_4cfef (i := 10) rfl) rfl rfl ?_
    refine qr_tlen (n := 18) i (dkJ1_indexOf_4cfef (i := 11) rfl) rfl hi ?_
    refine qr_min (n := 21) (dkJ1_indexOf_4cfef (i := 12) rfl) rfl kmJ1_38 kmhmin1 kmh2 kmhmin3 rfl (Nat.le_of_ble_eq_true rfl) ?_
    refine qr_b (α := Int32) (qv_mn x3 (Int32.ofNat (qv_len.getD i 0))) (lvf := fun _ => [(0, .ref (G.2.2.1 (2000 + i))), (1, .int x1), (2, .int x2_1), (3, .int x3)]) (stf := fun z => .int z :: []) (Sf := fun _ => S0) (fun x3_1 => ?_)
    refine qr_istore_n (n := 22) (lv2 := [(0, .ref (G.2.2.1 (2000 + i))), (1, .int x1), (2, .int x2_1), (3, .int x3_1)]) [1, 2, 3, 0] (dkJ1_indexOf_4cfef (i := 13) rfl) rfl rfl (by decide) rfl ?_
    refine qr_iload_n (n := 23) 2 (dkJ1_indexOf_4cfef (i := 14) rfl) rfl rfl ?_
    refine qr_iload_n (n := 24) 3 (dkJ1_indexOf_4cfef (i := 15) rfl) rfl rfl ?_
    refine qr_icmp_lt (t := 29) (n := 27) (dkJ1_indexOf_4cfef (i := 16) rfl) (by decide) rfl ?_ ?_
    · refine qr_aload_n (n := 30) 0 (dkJ1_indexOf_4cfef (i := 19) rfl) rfl rfl ?_
      refine qr_iload_n (n := 31) 1 (dkJ1_indexOf_4cfef (i := 20) rfl) rfl rfl ?_
      refine qr_iload_n (n := 32) 2 (dkJ1_indexOf_4cfef (i := 21) rfl) rfl rfl ?_
      refine qr_iload_n (n := 33) 3 (dkJ1_indexOf_4cfef (i := 22) rfl) rfl rfl ?_
      refine qr_csi (n := 36) [.ref (G.2.2.1 (2000 + i)), .int x1, .int x2_1, .int x3_1] (dkJ1_indexOf_4cfef (i := 23) rfl) rfl kvJ1_95 rfl rfl (Nat.le_of_ble_eq_true rfl) rfl rfl (wJ1_indexOfChar_4cfef G S0 i x1 x2_1 x3_1 hi) (fun r_2 => ?_)
      exact qr_iret (dkJ1_indexOf_4cfef (i := 24) rfl) rfl rfl
    · refine qr_iconst (n := 28) (-1) (dkJ1_indexOf_4cfef (i := 17) rfl) rfl (by decide) ?_
      exact qr_iret (dkJ1_indexOf_4cfef (i := 18) rfl) rfl rfl
  · refine qr_iconst (n := 8) (-1) (dkJ1_indexOf_4cfef (i := 3) rfl) rfl (by decide) ?_
    exact qr_iret (dkJ1_indexOf_4cfef (i := 4) rfl) rfl rfl
def tbJ0_indexOf_7cf53 : List (Nat × Instr × Nat) := [(0, .aload_n 0, 1), (1, .invokevirtual 492, 3), (4, .ifCond .eq 19, 3), (7, .aload_n 0, 1), (8, .getfield 9, 3), (11, .iload_n 1, 1), (12, .iload_n 2, 1), (13, .aload_n 0, 1), (14, .invokevirtual 505, 3), (17, .invokestatic 637, 3), (20, .goto 16, 3), (23, .aload_n 0, 1), (24, .getfield 9, 3), (27, .iload_n 1, 1), (28, .iload_n 2, 1), (29, .aload_n 0, 1), (30, .invokevirtual 505, 3), (33, .invokestatic 640, 3), (36, .ireturn, 1)]
set_option maxRecDepth 20000 in
theorem daJ0_indexOf_7cf53 : ∀ x ∈ tbJ0_indexOf_7cf53, decode cJ0_indexOf_7cf53 x.1 = .ok x.2 := by decide +kernel
theorem dkJ0_indexOf_7cf53 {i pc n : Nat} {ins : Instr} (h : tbJ0_indexOf_7cf53[i]? = some (pc, ins, n)) : decode cJ0_indexOf_7cf53 pc = .ok (ins, n) := daJ0_indexOf_7cf53 (pc, ins, n) (List.mem_of_getElem? h)
def fJ0_indexOf_7cf53 (S0 : qv_St) (i : Nat) (x1 : Int32) (x2 : Int32) : Option Int32 :=
  (fJ0_isLatin1_aae02 S0 i).bind fun r_1 =>
  if r_1 = 0 then
    (fJ0_length_8abf5 S0 i).bind fun r_2 =>
    none
  else
    (fJ0_length_8abf5 S0 i).bind fun r_3 =>
    (fJ1_indexOf_4cfef S0 i x1 x2 r_3).bind fun r_4 =>
    some r_4
set_option maxRecDepth 20000 in
set_option maxHeartbeats 4000000 in
theorem wJ0_indexOf_7cf53 (G : qv_GT) (S0 : qv_St) (i : Nat) (x1 : Int32) (x2 : Int32) (hi : i < 2) : ∀ r, fJ0_indexOf_7cf53 S0 i x1 x2 = some r → Cn G Lk yJ0_indexOf_7cf53 cJ0_indexOf_7cf53 3 (some .int) 3 [.ref (G.2.2.1 (1000 + i)), .int x1, .int x2] S0 ((qe_i S0) r) := by
  refine cn_of (own := RJ0) (emb := (qe_i S0)) (lv := [(0, .ref (G.2.2.1 (1000 + i))), (1, .int x1), (2, .int x2)]) rfl rfl (Nat.le_of_ble_eq_true rfl) rfl (fun X => ?_)
  unfold fJ0_indexOf_7cf53
  refine qr_aload_n (n := 1) 0 (dkJ0_indexOf_7cf53 (i := 0) rfl) rfl rfl ?_
  refine qr_kvi (n := 4) i [] (dkJ0_indexOf_7cf53 (i := 1) rfl) rfl kvJ0_492 rfl rfl (Nat.le_of_ble_eq_true rfl) rfl rfl hi rfl (wJ0_isLatin1_aae02 G S0 i hi) (fun r_1 => ?_)
  refine qr_if_eq (t := 23) (n := 7) (dkJ0_indexOf_7cf53 (i := 2) rfl) (by decide) rfl ?_ ?_
  · refine qr_aload_n (n := 24) 0 (dkJ0_indexOf_7cf53 (i := 11) rfl) rfl rfl ?_
    refine qr_gV (n := 27) i (dkJ0_indexOf_7cf53 (i := 12) rfl) rfl hi kfJ0_9 ?_
    refine qr_iload_n (n := 28) 1 (dkJ0_indexOf_7cf53 (i := 13) rfl) rfl rfl ?_
    refine qr_iload_n (n := 29) 2 (dkJ0_indexOf_7cf53 (i := 14) rfl) rfl rfl ?_
    refine qr_aload_n (n := 30) 0 (dkJ0_indexOf_7cf53 (i := 15) rfl) rfl rfl ?_
    refine qr_kvi (n := 33) i [] (dkJ0_indexOf_7cf53 (i := 16) rfl) rfl kvJ0_505 rfl rfl (Nat.le_of_ble_eq_true rfl) rfl rfl hi rfl (wJ0_length_8abf5 G S0 i hi) (fun r_2 => ?_)
    exact qr_none
  · refine qr_aload_n (n := 8) 0 (dkJ0_indexOf_7cf53 (i := 3) rfl) rfl rfl ?_
    refine qr_gV (n := 11) i (dkJ0_indexOf_7cf53 (i := 4) rfl) rfl hi kfJ0_9 ?_
    refine qr_iload_n (n := 12) 1 (dkJ0_indexOf_7cf53 (i := 5) rfl) rfl rfl ?_
    refine qr_iload_n (n := 13) 2 (dkJ0_indexOf_7cf53 (i := 6) rfl) rfl rfl ?_
    refine qr_aload_n (n := 14) 0 (dkJ0_indexOf_7cf53 (i := 7) rfl) rfl rfl ?_
    refine qr_kvi (n := 17) i [] (dkJ0_indexOf_7cf53 (i := 8) rfl) rfl kvJ0_505 rfl rfl (Nat.le_of_ble_eq_true rfl) rfl rfl hi rfl (wJ0_length_8abf5 G S0 i hi) (fun r_3 => ?_)
    refine qr_csi (n := 20) [.ref (G.2.2.1 (2000 + i)), .int x1, .int x2, .int r_3] (dkJ0_indexOf_7cf53 (i := 9) rfl) rfl kvJ0_637 rfl rfl (Nat.le_of_ble_eq_true rfl) rfl rfl (wJ1_indexOf_4cfef G S0 i x1 x2 r_3 hi) (fun r_4 => ?_)
    refine qr_goto (n := 36) (dkJ0_indexOf_7cf53 (i := 10) rfl) (by decide) ?_
    exact qr_iret (dkJ0_indexOf_7cf53 (i := 18) rfl) rfl rfl
def tbJ0_indexOf_0f7a4 : List (Nat × Instr × Nat) := [(0, .aload_n 0, 1), (1, .iload_n 1, 1), (2, .iconst 0, 1), (3, .invokevirtual 633, 3), (6, .ireturn, 1)]
set_option maxRecDepth 20000 in
theorem daJ0_indexOf_0f7a4 : ∀ x ∈ tbJ0_indexOf_0f7a4, decode cJ0_indexOf_0f7a4 x.1 = .ok x.2 := by decide +kernel
theorem dkJ0_indexOf_0f7a4 {i pc n : Nat} {ins : Instr} (h : tbJ0_indexOf_0f7a4[i]? = some (pc, ins, n)) : decode cJ0_indexOf_0f7a4 pc = .ok (ins, n) := daJ0_indexOf_0f7a4 (pc, ins, n) (List.mem_of_getElem? h)
def fJ0_indexOf_0f7a4 (S0 : qv_St) (i : Nat) (x1 : Int32) : Option Int32 :=
  (fJ0_indexOf_7cf53 S0 i x1 0).bind fun r_1 =>
  some r_1
set_option maxRecDepth 20000 in
set_option maxHeartbeats 4000000 in
theorem wJ0_indexOf_0f7a4 (G : qv_GT) (S0 : qv_St) (i : Nat) (x1 : Int32) (hi : i < 2) : ∀ r, fJ0_indexOf_0f7a4 S0 i x1 = some r → Cn G Lk yJ0_indexOf_0f7a4 cJ0_indexOf_0f7a4 2 (some .int) 4 [.ref (G.2.2.1 (1000 + i)), .int x1] S0 ((qe_i S0) r) := by
  refine cn_of (own := RJ0) (emb := (qe_i S0)) (lv := [(0, .ref (G.2.2.1 (1000 + i))), (1, .int x1)]) rfl rfl (Nat.le_of_ble_eq_true rfl) rfl (fun X => ?_)
  unfold fJ0_indexOf_0f7a4
  refine qr_aload_n (n := 1) 0 (dkJ0_indexOf_0f7a4 (i := 0) rfl) rfl rfl ?_
  refine qr_iload_n (n := 2) 1 (dkJ0_indexOf_0f7a4 (i := 1) rfl) rfl rfl ?_
  refine qr_iconst (n := 3) 0 (dkJ0_indexOf_0f7a4 (i := 2) rfl) rfl (by decide) ?_
  refine qr_kvi (n := 6) i [.int x1, .int 0] (dkJ0_indexOf_0f7a4 (i := 3) rfl) rfl kvJ0_633 rfl rfl (Nat.le_of_ble_eq_true rfl) rfl rfl hi rfl (wJ0_indexOf_7cf53 G S0 i x1 0 hi) (fun r_1 => ?_)
  exact qr_iret (dkJ0_indexOf_0f7a4 (i := 4) rfl) rfl rfl
def tbX9_kindOf : List (Nat × Instr × Nat) := [(0, .iload_n 3, 1), (1, .ifCond .ne 21, 3), (4, .iload_n 2, 1), (5, .bipush 8, 2), (7, .if_icmp .le 8, 3), (10, .bipush 25, 2), (12, .goto 9, 3), (15, .aload_n 0, 1), (16, .iload_n 1, 1), (17, .iload_n 2, 1), (18, .invokestatic 63, 3), (21, .ireturn, 1), (22, .iload_n 3, 1), (23, .iconst 1, 1), (24, .if_icmp .ne 16, 3), (27, .iload_n 2, 1), (28, .iconst 4, 1), (29, .if_icmp .le 8, 3), (32, .bipush 25, 2), (34, .goto 5, 3), (37, .bipush 23, 2), (39, .ireturn, 1), (40, .aload_n 0, 1), (41, .iload_n 1, 1), (42, .invokevirtual 34, 3), (45, .istore 4, 2), (47, .ldc 66, 2), (49, .iload 4, 2), (51, .i2c, 1), (52, .invokevirtual 68, 3), (55, .ifCond .lt 8, 3), (58, .iload 4, 2), (60, .goto 5, 3), (63, .bipush 25, 2), (65, .ireturn, 1)]
set_option maxRecDepth 20000 in
theorem daX9_kindOf : ∀ x ∈ tbX9_kindOf, decode cX9_kindOf x.1 = .ok x.2 := by decide +kernel
theorem dkX9_kindOf {i pc n : Nat} {ins : Instr} (h : tbX9_kindOf[i]? = some (pc, ins, n)) : decode cX9_kindOf pc = .ok (ins, n) := daX9_kindOf (pc, ins, n) (List.mem_of_getElem? h)
def fX9_kindOf (S0 : qv_St) (x1 : Int32) (x2 : Int32) (x3 : Int32) : Option Int32 :=
  if x3 = 0 then
    if x2 ≤ 8 then
      (fX9_wordOrName S0 x1 x2).bind fun r_3 =>
      some r_3
    else
      some 25
  else
    if x3 = 1 then
      if x2 ≤ 4 then
        some 23
      else
        some 25
    else
      (fX8_byteAt S0 x1).bind fun r_1 =>
      (fJ0_indexOf_0f7a4 S0 0 ((Int32.toUInt32 r_1 % 65536).toInt32)).bind fun r_2 =>
      if r_2 < 0 then
        some 25
      else
        some r_1
set_option maxRecDepth 20000 in
set_option maxHeartbeats 4000000 in
theorem wX9_kindOf (G : qv_GT) (S0 : qv_St) (x1 : Int32) (x2 : Int32) (x3 : Int32) : ∀ r, fX9_kindOf S0 x1 x2 x3 = some r → Cn G Lk yX9_kindOf cX9_kindOf 5 (some .int) 7 [.ref (G.2.2.1 1), .int x1, .int x2, .int x3] S0 ((qe_i S0) r) := by
  refine cn_of (own := RX9) (emb := (qe_i S0)) (lv := [(0, .ref (G.2.2.1 1)), (1, .int x1), (2, .int x2), (3, .int x3)]) rfl rfl (Nat.le_of_ble_eq_true rfl) rfl (fun X => ?_)
  unfold fX9_kindOf
  refine qr_iload_n (n := 1) 3 (dkX9_kindOf (i := 0) rfl) rfl rfl ?_
  refine qr_if_ne (t := 22) (n := 4) (dkX9_kindOf (i := 1) rfl) (by decide) rfl ?_ ?_
  · refine qr_iload_n (n := 23) 3 (dkX9_kindOf (i := 12) rfl) rfl rfl ?_
    refine qr_iconst (n := 24) 1 (dkX9_kindOf (i := 13) rfl) rfl (by decide) ?_
    refine qr_icmp_ne (t := 40) (n := 27) (dkX9_kindOf (i := 14) rfl) (by decide) rfl ?_ ?_
    · refine qr_aload_n (n := 41) 0 (dkX9_kindOf (i := 22) rfl) rfl rfl ?_
      refine qr_iload_n (n := 42) 1 (dkX9_kindOf (i := 23) rfl) rfl rfl ?_
      refine qr_cvi (n := 45) 1 [.int x1] (dkX9_kindOf (i := 24) rfl) rfl kvX9_34 rfl rfl (Nat.le_of_ble_eq_true rfl) rfl rfl lkO_1 rfl (wX8_byteAt G S0 x1) (fun r_1 => ?_)
      refine qr_istore (n := 47) (lv2 := [(0, .ref (G.2.2.1 1)), (1, .int x1), (2, .int x2), (3, .int x3), (4, .int r_1)]) [1, 2, 3, 4, 0] (dkX9_kindOf (i := 25) rfl) rfl (by decide) rfl ?_
      refine qr_ldcS0 (n := 49) (dkX9_kindOf (i := 26) rfl) rfl rfl ?_
      refine qr_iload (n := 51) 4 (dkX9_kindOf (i := 27) rfl) rfl rfl ?_
      refine qr_i2c (n := 52) (dkX9_kindOf (i := 28) rfl) rfl ?_
      refine qr_kvi (n := 55) 0 [.int ((Int32.toUInt32 r_1 % 65536).toInt32)] (dkX9_kindOf (i := 29) rfl) rfl kvX9_68 rfl rfl (Nat.le_of_ble_eq_true rfl) rfl rfl (by decide) rfl (wJ0_indexOf_0f7a4 G S0 0 ((Int32.toUInt32 r_1 % 65536).toInt32) (by decide)) (fun r_2 => ?_)
      refine qr_if_lt (t := 63) (n := 58) (dkX9_kindOf (i := 30) rfl) (by decide) rfl ?_ ?_
      · refine qr_bipush (n := 65) 25 (dkX9_kindOf (i := 33) rfl) rfl (by decide) ?_
        exact qr_iret (dkX9_kindOf (i := 34) rfl) rfl rfl
      · refine qr_iload (n := 60) 4 (dkX9_kindOf (i := 31) rfl) rfl rfl ?_
        refine qr_goto (n := 65) (dkX9_kindOf (i := 32) rfl) (by decide) ?_
        exact qr_iret (dkX9_kindOf (i := 34) rfl) rfl rfl
    · refine qr_iload_n (n := 28) 2 (dkX9_kindOf (i := 15) rfl) rfl rfl ?_
      refine qr_iconst (n := 29) 4 (dkX9_kindOf (i := 16) rfl) rfl (by decide) ?_
      refine qr_icmp_le (t := 37) (n := 32) (dkX9_kindOf (i := 17) rfl) (by decide) rfl ?_ ?_
      · refine qr_bipush (n := 39) 23 (dkX9_kindOf (i := 20) rfl) rfl (by decide) ?_
        exact qr_iret (dkX9_kindOf (i := 21) rfl) rfl rfl
      · refine qr_bipush (n := 34) 25 (dkX9_kindOf (i := 18) rfl) rfl (by decide) ?_
        refine qr_goto (n := 39) (dkX9_kindOf (i := 19) rfl) (by decide) ?_
        exact qr_iret (dkX9_kindOf (i := 21) rfl) rfl rfl
  · refine qr_iload_n (n := 5) 2 (dkX9_kindOf (i := 2) rfl) rfl rfl ?_
    refine qr_bipush (n := 7) 8 (dkX9_kindOf (i := 3) rfl) rfl (by decide) ?_
    refine qr_icmp_le (t := 15) (n := 10) (dkX9_kindOf (i := 4) rfl) (by decide) rfl ?_ ?_
    · refine qr_aload_n (n := 16) 0 (dkX9_kindOf (i := 7) rfl) rfl rfl ?_
      refine qr_iload_n (n := 17) 1 (dkX9_kindOf (i := 8) rfl) rfl rfl ?_
      refine qr_iload_n (n := 18) 2 (dkX9_kindOf (i := 9) rfl) rfl rfl ?_
      refine qr_csi (n := 21) [.ref (G.2.2.1 1), .int x1, .int x2] (dkX9_kindOf (i := 10) rfl) rfl kvX9_63 rfl rfl (Nat.le_of_ble_eq_true rfl) rfl rfl (wX9_wordOrName G S0 x1 x2) (fun r_3 => ?_)
      exact qr_iret (dkX9_kindOf (i := 11) rfl) rfl rfl
    · refine qr_bipush (n := 12) 25 (dkX9_kindOf (i := 5) rfl) rfl (by decide) ?_
      refine qr_goto (n := 21) (dkX9_kindOf (i := 6) rfl) (by decide) ?_
      exact qr_iret (dkX9_kindOf (i := 11) rfl) rfl rfl
def tbX9_valueOf : List (Nat × Instr × Nat) := [(0, .lconst 0, 1), (1, .lstore 4, 2), (3, .iconst 0, 1), (4, .istore 6, 2), (6, .iload 6, 2), (8, .iload_n 2, 1), (9, .if_icmp .ge 66, 3), (12, .iload 6, 2), (14, .bipush 8, 2), (16, .if_icmp .ge 59, 3), (19, .aload_n 0, 1), (20, .iload_n 1, 1), (21, .iload 6, 2), (23, .iadd, 1), (24, .invokevirtual 34, 3), (27, .istore 7, 2), (29, .iload_n 3, 1), (30, .iconst 1, 1), (31, .if_icmp .ne 20, 3), (34, .lload 4, 2), (36, .ldc2_w 86, 3), (39, .lmul, 1), (40, .iload 7, 2), (42, .i2l, 1), (43, .ladd, 1), (44, .ldc2_w 88, 3), (47, .lsub, 1), (48, .goto 19, 3), (51, .lload 4, 2), (53, .ldc2_w 90, 3), (56, .lmul, 1), (57, .iload 7, 2), (59, .i2l, 1), (60, .ladd, 1), (61, .ldc2_w 92, 3), (64, .lsub, 1), (65, .lconst 1, 1), (66, .ladd, 1), (67, .lstore 4, 2), (69, .iinc 6 1, 3), (72, .goto (-66), 3), (75, .lload 4, 2), (77, .lreturn, 1)]
set_option maxRecDepth 20000 in
theorem daX9_valueOf : ∀ x ∈ tbX9_valueOf, decode cX9_valueOf x.1 = .ok x.2 := by decide +kernel
theorem dkX9_valueOf {i pc n : Nat} {ins : Instr} (h : tbX9_valueOf[i]? = some (pc, ins, n)) : decode cX9_valueOf pc = .ok (ins, n) := daX9_valueOf (pc, ins, n) (List.mem_of_getElem? h)
def fX9_valueOf (S0 : qv_St) (x1 : Int32) (x2 : Int32) (x3 : Int32) : Option Int64 :=
  qv_lp2 qv_N (fun self_1 (x4_1 : Int64) (x6_1 : Int32) =>
    if x2 ≤ x6_1 then
      some x4_1
    else
      if 8 ≤ x6_1 then
        some x4_1
      else
        (fX8_byteAt S0 (x1 + x6_1)).bind fun r_1 =>
        qv_j (fun (t_1 : Int64) =>
          self_1 t_1 (x6_1 + 1)) fun K_1 =>
        if x3 = 1 then
          K_1 (((x4_1 * 10) + (Int32.toInt64 r_1)) - 48)
        else
          K_1 ((((x4_1 * 32) + (Int32.toInt64 r_1)) - 97) + 1)) 0 0
set_option maxRecDepth 20000 in
set_option maxHeartbeats 4000000 in
theorem wX9_valueOf (G : qv_GT) (S0 : qv_St) (x1 : Int32) (x2 : Int32) (x3 : Int32) : ∀ r, fX9_valueOf S0 x1 x2 x3 = some r → Cn G Lk yX9_valueOf cX9_valueOf 8 (some .long) 2 [.ref (G.2.2.1 1), .int x1, .int x2, .int x3] S0 ((qe_l S0) r) := by
  refine cn_of (own := RX9) (emb := (qe_l S0)) (lv := [(0, .ref (G.2.2.1 1)), (1, .int x1), (2, .int x2), (3, .int x3)]) rfl rfl (Nat.le_of_ble_eq_true rfl) rfl (fun X => ?_)
  unfold fX9_valueOf
  refine qr_lconst (n := 1) 0 (dkX9_valueOf (i := 0) rfl) rfl (by decide) ?_
  refine qr_lstore (n := 3) (lv2 := [(0, .ref (G.2.2.1 1)), (1, .int x1), (2, .int x2), (3, .int x3), (4, .long 0)]) [1, 2, 3, 4, 0] (dkX9_valueOf (i := 1) rfl) rfl (by decide) rfl ?_
  refine qr_iconst (n := 4) 0 (dkX9_valueOf (i := 2) rfl) rfl (by decide) ?_
  refine qr_istore (n := 6) (lv2 := [(0, .ref (G.2.2.1 1)), (1, .int x1), (2, .int x2), (3, .int x3), (4, .long 0), (6, .int 0)]) [1, 2, 3, 4, 5, 0] (dkX9_valueOf (i := 3) rfl) rfl (by decide) rfl ?_
  refine qr_lp2 (fun (x4_1 : Int64) (x6_1 : Int32) => [(0, .ref (G.2.2.1 1)), (1, .int x1), (2, .int x2), (3, .int x3), (4, .long x4_1), (6, .int x6_1)]) (fun (x4_1 : Int64) (x6_1 : Int32) => S0) (fun self_1 hself_1 x4_1 x6_1 => ?_) qv_N 0 0
  refine qr_iload (n := 8) 5 (dkX9_valueOf (i := 4) rfl) rfl rfl ?_
  refine qr_iload_n (n := 9) 2 (dkX9_valueOf (i := 5) rfl) rfl rfl ?_
  refine qr_icmp_ge (t := 75) (n := 12) (dkX9_valueOf (i := 6) rfl) (by decide) rfl ?_ ?_
  · refine qr_lload (n := 77) 4 (dkX9_valueOf (i := 41) rfl) rfl rfl ?_
    exact qr_lret (dkX9_valueOf (i := 42) rfl) rfl rfl
  · refine qr_iload (n := 14) 5 (dkX9_valueOf (i := 7) rfl) rfl rfl ?_
    refine qr_bipush (n := 16) 8 (dkX9_valueOf (i := 8) rfl) rfl (by decide) ?_
    refine qr_icmp_ge (t := 75) (n := 19) (dkX9_valueOf (i := 9) rfl) (by decide) rfl ?_ ?_
    · refine qr_lload (n := 77) 4 (dkX9_valueOf (i := 41) rfl) rfl rfl ?_
      exact qr_lret (dkX9_valueOf (i := 42) rfl) rfl rfl
    · refine qr_aload_n (n := 20) 0 (dkX9_valueOf (i := 10) rfl) rfl rfl ?_
      refine qr_iload_n (n := 21) 1 (dkX9_valueOf (i := 11) rfl) rfl rfl ?_
      refine qr_iload (n := 23) 5 (dkX9_valueOf (i := 12) rfl) rfl rfl ?_
      refine qr_iadd (n := 24) (dkX9_valueOf (i := 13) rfl) rfl ?_
      refine qr_cvi (n := 27) 1 [.int (x1 + x6_1)] (dkX9_valueOf (i := 14) rfl) rfl kvX9_34 rfl rfl (Nat.le_of_ble_eq_true rfl) rfl rfl lkO_1 rfl (wX8_byteAt G S0 (x1 + x6_1)) (fun r_1 => ?_)
      refine qr_istore (n := 29) (lv2 := [(0, .ref (G.2.2.1 1)), (1, .int x1), (2, .int x2), (3, .int x3), (4, .long x4_1), (6, .int x6_1), (7, .int r_1)]) [1, 2, 3, 4, 5, 6, 0] (dkX9_valueOf (i := 15) rfl) rfl (by decide) rfl ?_
      refine qr_iload_n (n := 30) 3 (dkX9_valueOf (i := 16) rfl) rfl rfl ?_
      refine qr_iconst (n := 31) 1 (dkX9_valueOf (i := 17) rfl) rfl (by decide) ?_
      refine qr_j (fun K_1 : Int64 → Option Int64 => ∀ (t_1 : Int64), VV G Lk X RX9 cX9_valueOf 8 (some .long) 2 (qe_l S0) 67 [(0, .ref (G.2.2.1 1)), (1, .int x1), (2, .int x2), (3, .int x3), (6, .int x6_1)] [.long t_1] S0 (K_1 t_1)) (fun t_1 => ?_) (fun K_1 hK_1 => ?_)
      · refine qr_lstore (n := 69) (lv2 := [(0, .ref (G.2.2.1 1)), (1, .int x1), (2, .int x2), (3, .int x3), (4, .long t_1), (6, .int x6_1)]) [1, 2, 3, 4, 0, 5] (dkX9_valueOf (i := 38) rfl) rfl (by decide) rfl ?_
        refine qr_iinc (n := 72) (v := 1) (lv2 := [(0, .ref (G.2.2.1 1)), (1, .int x1), (2, .int x2), (3, .int x3), (4, .long t_1), (6, .int (x6_1 + 1))]) 5 [1, 2, 3, 4, 5, 0] (dkX9_valueOf (i := 39) rfl) rfl rfl (by decide) (by decide) rfl ?_
        refine qr_goto (n := 6) (dkX9_valueOf (i := 40) rfl) (by decide) ?_
        exact hself_1 t_1 (x6_1 + 1)
      · refine qr_icmp_ne (t := 51) (n := 34) (dkX9_valueOf (i := 18) rfl) (by decide) rfl ?_ ?_
        · refine qr_lload (n := 53) 4 (dkX9_valueOf (i := 28) rfl) rfl rfl ?_
          refine qr_ldc2 (n := 56) 32 (dkX9_valueOf (i := 29) rfl) rfl kcX9_90 ?_
          refine qr_lmul (n := 57) (dkX9_valueOf (i := 30) rfl) rfl ?_
          refine qr_iload (n := 59) 6 (dkX9_valueOf (i := 31) rfl) rfl rfl ?_
          refine qr_i2l (n := 60) (dkX9_valueOf (i := 32) rfl) rfl ?_
          refine qr_ladd (n := 61) (dkX9_valueOf (i := 33) rfl) rfl ?_
          refine qr_ldc2 (n := 64) 97 (dkX9_valueOf (i := 34) rfl) rfl kcX9_92 ?_
          refine qr_lsub (n := 65) (dkX9_valueOf (i := 35) rfl) rfl ?_
          refine qr_lconst (n := 66) 1 (dkX9_valueOf (i := 36) rfl) rfl (by decide) ?_
          refine qr_ladd (n := 67) (dkX9_valueOf (i := 37) rfl) rfl ?_
          refine qr_sub [0, 1, 2, 3, 5] rfl ?_
          exact hK_1 ((((x4_1 * 32) + (Int32.toInt64 r_1)) - 97) + 1)
        · refine qr_lload (n := 36) 4 (dkX9_valueOf (i := 19) rfl) rfl rfl ?_
          refine qr_ldc2 (n := 39) 10 (dkX9_valueOf (i := 20) rfl) rfl kcX9_86 ?_
          refine qr_lmul (n := 40) (dkX9_valueOf (i := 21) rfl) rfl ?_
          refine qr_iload (n := 42) 6 (dkX9_valueOf (i := 22) rfl) rfl rfl ?_
          refine qr_i2l (n := 43) (dkX9_valueOf (i := 23) rfl) rfl ?_
          refine qr_ladd (n := 44) (dkX9_valueOf (i := 24) rfl) rfl ?_
          refine qr_ldc2 (n := 47) 48 (dkX9_valueOf (i := 25) rfl) rfl kcX9_88 ?_
          refine qr_lsub (n := 48) (dkX9_valueOf (i := 26) rfl) rfl ?_
          refine qr_goto (n := 67) (dkX9_valueOf (i := 27) rfl) (by decide) ?_
          refine qr_sub [0, 1, 2, 3, 5] rfl ?_
          exact hK_1 (((x4_1 * 10) + (Int32.toInt64 r_1)) - 48)
def tbX9_cut : List (Nat × Instr × Nat) := [(0, .aload_n 0, 1), (1, .iconst 0, 1), (2, .putfield 22, 3), (5, .aload_n 0, 1), (6, .aload_n 1, 1), (7, .getfield 26, 3), (10, .putfield 31, 3), (13, .iconst 0, 1), (14, .istore_n 2, 1), (15, .iload_n 2, 1), (16, .aload_n 0, 1), (17, .getfield 31, 3), (20, .if_icmp .ge 103, 3), (23, .aload_n 0, 1), (24, .getfield 22, 3), (27, .aload_n 0, 1), (28, .getfield 11, 3), (31, .arraylength, 1), (32, .if_icmp .ge 91, 3), (35, .aload_n 1, 1), (36, .iload_n 2, 1), (37, .invokevirtual 34, 3), (40, .invokestatic 38, 3), (43, .istore_n 3, 1), (44, .aload_n 1, 1), (45, .iload_n 2, 1), (46, .iload_n 3, 1), (47, .invokestatic 41, 3), (50, .istore 4, 2), (52, .iload_n 3, 1), (53, .iconst 2, 1), (54, .if_icmp .eq 57, 3), (57, .aload_n 0, 1), (58, .getfield 11, 3), (61, .aload_n 0, 1), (62, .getfield 22, 3), (65, .aload_n 1, 1), (66, .iload_n 2, 1), (67, .iload 4, 2), (69, .iload_n 3, 1), (70, .invokestatic 45, 3), (73, .iastore, 1), (74, .aload_n 0, 1), (75, .getfield 15, 3), (78, .aload_n 0, 1), (79, .getfield 22, 3), (82, .iload_n 2, 1), (83, .iastore, 1), (84, .aload_n 0, 1), (85, .getfield 18, 3), (88, .aload_n 0, 1), (89, .getfield 22, 3), (92, .aload_n 1, 1), (93, .iload_n 2, 1), (94, .iload 4, 2), (96, .iload_n 3, 1), (97, .invokestatic 49, 3), (100, .lastore, 1), (101, .aload_n 0, 1), (102, .dup, 1), (103, .getfield 22, 3), (106, .iconst 1, 1), (107, .iadd, 1), (108, .putfield 22, 3), (111, .iload_n 2, 1), (112, .iconst 1, 1), (113, .iload 4, 2), (115, .invokestatic 53, 3), (118, .iadd, 1), (119, .istore_n 2, 1), (120, .goto (-105), 3), (123, .return_, 1)]
set_option maxRecDepth 20000 in
theorem daX9_cut : ∀ x ∈ tbX9_cut, decode cX9_cut x.1 = .ok x.2 := by decide +kernel
theorem dkX9_cut {i pc n : Nat} {ins : Instr} (h : tbX9_cut[i]? = some (pc, ins, n)) : decode cX9_cut pc = .ok (ins, n) := daX9_cut (pc, ins, n) (List.mem_of_getElem? h)
def fX9_cut (S0 : qv_St) : Option qv_St :=
  qv_b (qv_si S0 3 4 0) fun S_1 =>
  qv_b (qv_si S_1 3 3 (S_1.1 1 1)) fun S_2 =>
  qv_lp2 qv_N (fun self_1 (S_3 : qv_St) (x2_1 : Int32) =>
    if (S_3.1 3 3) ≤ x2_1 then
      some S_3
    else
      if 401 ≤ (S_3.1 3 4) then
        some S_3
      else
        (fX8_byteAt S_3 x2_1).bind fun r_1 =>
        (fX9_sortOf r_1).bind fun r_2 =>
        (fX9_runFrom S_3 x2_1 r_2).bind fun r_3 =>
        qv_j (fun (S_4 : qv_St) =>
          qv_b ((x2_1 + (qv_mx 1 r_3)) : Int32) fun x2_2 =>
          self_1 S_4 x2_2) fun K_1 =>
        if r_2 = 2 then
          K_1 S_3
        else
          (fX9_kindOf S_3 x2_1 r_3 r_2).bind fun r_4 =>
          qv_ck (S_3.1 3 4) 401 <| qv_b (qv_si S_3 4 (Int32.toNatClampNeg (S_3.1 3 4)) r_4) fun S_5 =>
          qv_ck (S_5.1 3 4) 401 <| qv_b (qv_si S_5 5 (Int32.toNatClampNeg (S_5.1 3 4)) x2_1) fun S_6 =>
          (fX9_valueOf S_6 x2_1 r_3 r_2).bind fun r_5 =>
          qv_ck (S_6.1 3 4) 401 <| qv_b (qv_sl S_6 6 (Int32.toNatClampNeg (S_6.1 3 4)) r_5) fun S_7 =>
          qv_b (qv_si S_7 3 4 ((S_7.1 3 4) + 1)) fun S_8 =>
          K_1 S_8) S_2 0
set_option maxRecDepth 20000 in
set_option maxHeartbeats 4000000 in
theorem wX9_cut (G : qv_GT) (S0 : qv_St) : ∀ r, fX9_cut S0 = some r → Cn G Lk yX9_cut cX9_cut 5 none 8 [.ref (G.2.2.1 3), .ref (G.2.2.1 1)] S0 (qe_u r) := by
  refine cn_of (own := RX9) (emb := qe_u) (lv := [(0, .ref (G.2.2.1 3)), (1, .ref (G.2.2.1 1))]) rfl rfl (Nat.le_of_ble_eq_true rfl) rfl (fun X => ?_)
  unfold fX9_cut
  refine qr_aload_n (n := 1) 0 (dkX9_cut (i := 0) rfl) rfl rfl ?_
  refine qr_iconst (n := 2) 0 (dkX9_cut (i := 1) rfl) rfl (by decide) ?_
  refine qr_puti (n := 5) 3 4 (dkX9_cut (i := 2) rfl) rfl lkO_3 rfl gnX9 (Nat.le_of_ble_eq_true rfl) kfX9_22 rfl tyX9_ok nmX9 rfl rfl (fun S_1 => ?_)
  refine qr_aload_n (n := 6) 0 (dkX9_cut (i := 3) rfl) rfl rfl ?_
  refine qr_aload_n (n := 7) 1 (dkX9_cut (i := 4) rfl) rfl rfl ?_
  refine qr_geti (n := 10) 1 1 (dkX9_cut (i := 5) rfl) rfl lkO_1 rfl gnX8 (Nat.le_of_ble_eq_true rfl) kfX9_26 rfl ?_
  refine qr_puti (n := 13) 3 3 (dkX9_cut (i := 6) rfl) rfl lkO_3 rfl gnX9 (Nat.le_of_ble_eq_true rfl) kfX9_31 rfl tyX9_ok nmX9 rfl rfl (fun S_2 => ?_)
  refine qr_iconst (n := 14) 0 (dkX9_cut (i := 7) rfl) rfl (by decide) ?_
  refine qr_istore_n (n := 15) (lv2 := [(0, .ref (G.2.2.1 3)), (1, .ref (G.2.2.1 1)), (2, .int 0)]) [1, 2, 0] (dkX9_cut (i := 8) rfl) rfl rfl (by decide) rfl ?_
  refine qr_lp2 (fun (S_3 : qv_St) (x2_1 : Int32) => [(0, .ref (G.2.2.1 3)), (1, .ref (G.2.2.1 1)), (2, .int x2_1)]) (fun (S_3 : qv_St) (x2_1 : Int32) => S_3) (fun self_1 hself_1 S_3 x2_1 => ?_) qv_N S_2 0
  refine qr_iload_n (n := 16) 2 (dkX9_cut (i := 9) rfl) rfl rfl ?_
  refine qr_aload_n (n := 17) 0 (dkX9_cut (i := 10) rfl) rfl rfl ?_
  refine qr_geti (n := 20) 3 3 (dkX9_cut (i := 11) rfl) rfl lkO_3 rfl gnX9 (Nat.le_of_ble_eq_true rfl) kfX9_31 rfl ?_
  refine qr_icmp_ge (t := 123) (n := 23) (dkX9_cut (i := 12) rfl) (by decide) rfl ?_ ?_
  · exact qr_vret (dkX9_cut (i := 71) rfl) rfl rfl
  · refine qr_aload_n (n := 24) 0 (dkX9_cut (i := 13) rfl) rfl rfl ?_
    refine qr_geti (n := 27) 3 4 (dkX9_cut (i := 14) rfl) rfl lkO_3 rfl gnX9 (Nat.le_of_ble_eq_true rfl) kfX9_22 rfl ?_
    refine qr_aload_n (n := 28) 0 (dkX9_cut (i := 15) rfl) rfl rfl ?_
    refine qr_geta (n := 31) 3 0 4 (dkX9_cut (i := 16) rfl) rfl lkO_3 rfl gnX9 (Nat.le_of_ble_eq_true rfl) kfX9_11 rfl ?_
    refine qr_alen (n := 32) 4 401 401 (dkX9_cut (i := 17) rfl) rfl lkA_4 (by decide) ?_
    refine qr_icmp_ge (t := 123) (n := 35) (dkX9_cut (i := 18) rfl) (by decide) rfl ?_ ?_
    · exact qr_vret (dkX9_cut (i := 71) rfl) rfl rfl
    · refine qr_aload_n (n := 36) 1 (dkX9_cut (i := 19) rfl) rfl rfl ?_
      refine qr_iload_n (n := 37) 2 (dkX9_cut (i := 20) rfl) rfl rfl ?_
      refine qr_cvi (n := 40) 1 [.int x2_1] (dkX9_cut (i := 21) rfl) rfl kvX9_34 rfl rfl (Nat.le_of_ble_eq_true rfl) rfl rfl lkO_1 rfl (wX8_byteAt G S_3 x2_1) (fun r_1 => ?_)
      refine qr_csi (n := 43) [.int r_1] (dkX9_cut (i := 22) rfl) rfl kvX9_38 rfl rfl (Nat.le_of_ble_eq_true rfl) rfl rfl (wX9_sortOf G S_3 r_1) (fun r_2 => ?_)
      refine qr_istore_n (n := 44) (lv2 := [(0, .ref (G.2.2.1 3)), (1, .ref (G.2.2.1 1)), (2, .int x2_1), (3, .int r_2)]) [1, 2, 3, 0] (dkX9_cut (i := 23) rfl) rfl rfl (by decide) rfl ?_
      refine qr_aload_n (n := 45) 1 (dkX9_cut (i := 24) rfl) rfl rfl ?_
      refine qr_iload_n (n := 46) 2 (dkX9_cut (i := 25) rfl) rfl rfl ?_
      refine qr_iload_n (n := 47) 3 (dkX9_cut (i := 26) rfl) rfl rfl ?_
      refine qr_csi (n := 50) [.ref (G.2.2.1 1), .int x2_1, .int r_2] (dkX9_cut (i := 27) rfl) rfl kvX9_41 rfl rfl (Nat.le_of_ble_eq_true rfl) rfl rfl (wX9_runFrom G S_3 x2_1 r_2) (fun r_3 => ?_)
      refine qr_istore (n := 52) (lv2 := [(0, .ref (G.2.2.1 3)), (1, .ref (G.2.2.1 1)), (2, .int x2_1), (3, .int r_2), (4, .int r_3)]) [1, 2, 3, 4, 0] (dkX9_cut (i := 28) rfl) rfl (by decide) rfl ?_
      refine qr_iload_n (n := 53) 3 (dkX9_cut (i := 29) rfl) rfl rfl ?_
      refine qr_iconst (n := 54) 2 (dkX9_cut (i := 30) rfl) rfl (by decide) ?_
      refine qr_j (fun K_1 : qv_St → Option qv_St => ∀ (S_4 : qv_St), VV G Lk X RX9 cX9_cut 5 none 8 qe_u 111 [(0, .ref (G.2.2.1 3)), (1, .ref (G.2.2.1 1)), (2, .int x2_1), (4, .int r_3)] [] S_4 (K_1 S_4)) (fun S_4 => ?_) (fun K_1 hK_1 => ?_)
      · refine qr_iload_n (n := 112) 2 (dkX9_cut (i := 64) rfl) rfl rfl ?_
        refine qr_iconst (n := 113) 1 (dkX9_cut (i := 65) rfl) rfl (by decide) ?_
        refine qr_iload (n := 115) 3 (dkX9_cut (i := 66) rfl) rfl rfl ?_
        refine qr_max (n := 118) (dkX9_cut (i := 67) rfl) rfl kmX9_53 kmhmax1 kmh2 kmhmax3 rfl (Nat.le_of_ble_eq_true rfl) ?_
        refine qr_iadd (n := 119) (dkX9_cut (i := 68) rfl) rfl ?_
        refine qr_b (α := Int32) (x2_1 + (qv_mx 1 r_3)) (lvf := fun _ => [(0, .ref (G.2.2.1 3)), (1, .ref (G.2.2.1 1)), (2, .int x2_1), (4, .int r_3)]) (stf := fun z => .int z :: []) (Sf := fun _ => S_4) (fun x2_2 => ?_)
        refine qr_istore_n (n := 120) (lv2 := [(0, .ref (G.2.2.1 3)), (1, .ref (G.2.2.1 1)), (2, .int x2_2), (4, .int r_3)]) [1, 2, 0, 3] (dkX9_cut (i := 69) rfl) rfl rfl (by decide) rfl ?_
        refine qr_goto (n := 15) (dkX9_cut (i := 70) rfl) (by decide) ?_
        refine qr_sub [0, 1, 2] rfl ?_
        exact hself_1 S_4 x2_2
      · refine qr_icmp_eq (t := 111) (n := 57) (dkX9_cut (i := 31) rfl) (by decide) rfl ?_ ?_
        · refine qr_sub [0, 1, 2, 4] rfl ?_
          exact hK_1 S_3
        · refine qr_aload_n (n := 58) 0 (dkX9_cut (i := 32) rfl) rfl rfl ?_
          refine qr_geta (n := 61) 3 0 4 (dkX9_cut (i := 33) rfl) rfl lkO_3 rfl gnX9 (Nat.le_of_ble_eq_true rfl) kfX9_11 rfl ?_
          refine qr_aload_n (n := 62) 0 (dkX9_cut (i := 34) rfl) rfl rfl ?_
          refine qr_geti (n := 65) 3 4 (dkX9_cut (i := 35) rfl) rfl lkO_3 rfl gnX9 (Nat.le_of_ble_eq_true rfl) kfX9_22 rfl ?_
          refine qr_aload_n (n := 66) 1 (dkX9_cut (i := 36) rfl) rfl rfl ?_
          refine qr_iload_n (n := 67) 2 (dkX9_cut (i := 37) rfl) rfl rfl ?_
          refine qr_iload (n := 69) 4 (dkX9_cut (i := 38) rfl) rfl rfl ?_
          refine qr_iload_n (n := 70) 3 (dkX9_cut (i := 39) rfl) rfl rfl ?_
          refine qr_csi (n := 73) [.ref (G.2.2.1 1), .int x2_1, .int r_3, .int r_2] (dkX9_cut (i := 40) rfl) rfl kvX9_45 rfl rfl (Nat.le_of_ble_eq_true rfl) rfl rfl (wX9_kindOf G S_3 x2_1 r_3 r_2) (fun r_4 => ?_)
          refine qr_iast (n := 74) 4 401 (dkX9_cut (i := 41) rfl) rfl lkA_4 (fun S_5 => ?_)
          refine qr_aload_n (n := 75) 0 (dkX9_cut (i := 42) rfl) rfl rfl ?_
          refine qr_geta (n := 78) 3 1 5 (dkX9_cut (i := 43) rfl) rfl lkO_3 rfl gnX9 (Nat.le_of_ble_eq_true rfl) kfX9_15 rfl ?_
          refine qr_aload_n (n := 79) 0 (dkX9_cut (i := 44) rfl) rfl rfl ?_
          refine qr_geti (n := 82) 3 4 (dkX9_cut (i := 45) rfl) rfl lkO_3 rfl gnX9 (Nat.le_of_ble_eq_true rfl) kfX9_22 rfl ?_
          refine qr_iload_n (n := 83) 2 (dkX9_cut (i := 46) rfl) rfl rfl ?_
          refine qr_iast (n := 84) 5 401 (dkX9_cut (i := 47) rfl) rfl lkA_5 (fun S_6 => ?_)
          refine qr_aload_n (n := 85) 0 (dkX9_cut (i := 48) rfl) rfl rfl ?_
          refine qr_geta (n := 88) 3 2 6 (dkX9_cut (i := 49) rfl) rfl lkO_3 rfl gnX9 (Nat.le_of_ble_eq_true rfl) kfX9_18 rfl ?_
          refine qr_aload_n (n := 89) 0 (dkX9_cut (i := 50) rfl) rfl rfl ?_
          refine qr_geti (n := 92) 3 4 (dkX9_cut (i := 51) rfl) rfl lkO_3 rfl gnX9 (Nat.le_of_ble_eq_true rfl) kfX9_22 rfl ?_
          refine qr_aload_n (n := 93) 1 (dkX9_cut (i := 52) rfl) rfl rfl ?_
          refine qr_iload_n (n := 94) 2 (dkX9_cut (i := 53) rfl) rfl rfl ?_
          refine qr_iload (n := 96) 4 (dkX9_cut (i := 54) rfl) rfl rfl ?_
          refine qr_iload_n (n := 97) 3 (dkX9_cut (i := 55) rfl) rfl rfl ?_
          refine qr_csl (n := 100) [.ref (G.2.2.1 1), .int x2_1, .int r_3, .int r_2] (dkX9_cut (i := 56) rfl) rfl kvX9_49 rfl rfl (Nat.le_of_ble_eq_true rfl) rfl rfl (wX9_valueOf G S_6 x2_1 r_3 r_2) (fun r_5 => ?_)
          refine qr_last (n := 101) 6 401 (dkX9_cut (i := 57) rfl) rfl lkA_6 (fun S_7 => ?_)
          refine qr_aload_n (n := 102) 0 (dkX9_cut (i := 58) rfl) rfl rfl ?_
          refine qr_dup (n := 103) (dkX9_cut (i := 59) rfl) rfl rfl ?_
          refine qr_geti (n := 106) 3 4 (dkX9_cut (i := 60) rfl) rfl lkO_3 rfl gnX9 (Nat.le_of_ble_eq_true rfl) kfX9_22 rfl ?_
          refine qr_iconst (n := 107) 1 (dkX9_cut (i := 61) rfl) rfl (by decide) ?_
          refine qr_iadd (n := 108) (dkX9_cut (i := 62) rfl) rfl ?_
          refine qr_puti (n := 111) 3 4 (dkX9_cut (i := 63) rfl) rfl lkO_3 rfl gnX9 (Nat.le_of_ble_eq_true rfl) kfX9_22 rfl tyX9_ok nmX9 rfl rfl (fun S_8 => ?_)
          refine qr_sub [0, 1, 2, 4] rfl ?_
          exact hK_1 S_8
def tbX10_clear : List (Nat × Instr × Nat) := [(0, .aload_n 0, 1), (1, .iconst 0, 1), (2, .putfield 23, 3), (5, .aload_n 0, 1), (6, .getfield 11, 3), (9, .iconst 0, 1), (10, .invokestatic 27, 3), (13, .return_, 1)]
set_option maxRecDepth 20000 in
theorem daX10_clear : ∀ x ∈ tbX10_clear, decode cX10_clear x.1 = .ok x.2 := by decide +kernel
theorem dkX10_clear {i pc n : Nat} {ins : Instr} (h : tbX10_clear[i]? = some (pc, ins, n)) : decode cX10_clear pc = .ok (ins, n) := daX10_clear (pc, ins, n) (List.mem_of_getElem? h)
def fX10_clear (S0 : qv_St) : Option qv_St :=
  qv_b (qv_si S0 268 3 0) fun S_1 =>
  (fJ7_fill_53178 S_1 269 1000 0).bind fun S_2 =>
  some S_2
set_option maxRecDepth 20000 in
set_option maxHeartbeats 4000000 in
theorem wX10_clear (G : qv_GT) (S0 : qv_St) : ∀ r, fX10_clear S0 = some r → Cn G Lk yX10_clear cX10_clear 1 none 2 [.ref (G.2.2.1 268)] S0 (qe_u r) := by
  refine cn_of (own := RX10) (emb := qe_u) (lv := [(0, .ref (G.2.2.1 268))]) rfl rfl (Nat.le_of_ble_eq_true rfl) rfl (fun X => ?_)
  unfold fX10_clear
  refine qr_aload_n (n := 1) 0 (dkX10_clear (i := 0) rfl) rfl rfl ?_
  refine qr_iconst (n := 2) 0 (dkX10_clear (i := 1) rfl) rfl (by decide) ?_
  refine qr_puti (n := 5) 268 3 (dkX10_clear (i := 2) rfl) rfl lkO_268 rfl gnX10 (Nat.le_of_ble_eq_true rfl) kfX10_23 rfl tyX10_ok nmX10 rfl rfl (fun S_1 => ?_)
  refine qr_aload_n (n := 6) 0 (dkX10_clear (i := 3) rfl) rfl rfl ?_
  refine qr_geta (n := 9) 268 2 269 (dkX10_clear (i := 4) rfl) rfl lkO_268 rfl gnX10 (Nat.le_of_ble_eq_true rfl) kfX10_11 rfl ?_
  refine qr_iconst (n := 10) 0 (dkX10_clear (i := 5) rfl) rfl (by decide) ?_
  refine qr_csu (n := 13) [.ref (G.2.2.1 269), .int 0] (dkX10_clear (i := 6) rfl) rfl kvX10_27 rfl rfl (Nat.le_of_ble_eq_true rfl) rfl rfl (wJ7_fill_53178 G S_1 269 1000 0 lkA_269) (fun S_2 => ?_)
  exact qr_vret (dkX10_clear (i := 7) rfl) rfl rfl
def tbX10_noiseOf : List (Nat × Instr × Nat) := [(0, .iconst 0, 1), (1, .istore_n 3, 1), (2, .iconst 0, 1), (3, .istore 4, 2), (5, .iload 4, 2), (7, .aload_n 0, 1), (8, .getfield 15, 3), (11, .getfield 37, 3), (14, .if_icmp .ge 36, 3), (17, .iload_n 3, 1), (18, .aload_n 0, 1), (19, .getfield 19, 3), (22, .iload 4, 2), (24, .iload_n 1, 1), (25, .iload_n 2, 1), (26, .aload_n 0, 1), (27, .getfield 19, 3), (30, .iload 4, 2), (32, .iload_n 2, 1), (33, .iconst 0, 1), (34, .invokevirtual 42, 3), (37, .invokevirtual 48, 3), (40, .invokestatic 52, 3), (43, .istore_n 3, 1), (44, .iinc 4 1, 3), (47, .goto (-42), 3), (50, .iload_n 3, 1), (51, .ireturn, 1)]
set_option maxRecDepth 20000 in
theorem daX10_noiseOf : ∀ x ∈ tbX10_noiseOf, decode cX10_noiseOf x.1 = .ok x.2 := by decide +kernel
theorem dkX10_noiseOf {i pc n : Nat} {ins : Instr} (h : tbX10_noiseOf[i]? = some (pc, ins, n)) : decode cX10_noiseOf pc = .ok (ins, n) := daX10_noiseOf (pc, ins, n) (List.mem_of_getElem? h)
def fX10_noiseOf (S0 : qv_St) (x1 : Int32) (x2 : Int32) : Option (qv_St × Int32) :=
  qv_lp3 qv_N (fun self_1 (S_1 : qv_St) (x3_1 : Int32) (x4_1 : Int32) =>
    if (S_1.1 9 0) ≤ x4_1 then
      some (S_1, x3_1)
    else
      qv_cm (fX0_ageOf S_1 x4_1 x2 0) fun S_2 r_1 =>
      qv_cm (fX0_heardOf S_2 x4_1 x1 x2 r_1) fun S_3 r_2 =>
      qv_b ((qv_mx x3_1 r_2) : Int32) fun x3_2 =>
      self_1 S_3 x3_2 (x4_1 + 1)) S0 0 0
set_option maxRecDepth 20000 in
set_option maxHeartbeats 4000000 in
theorem wX10_noiseOf (G : qv_GT) (S0 : qv_St) (x1 : Int32) (x2 : Int32) : ∀ r, fX10_noiseOf S0 x1 x2 = some r → Cn G Lk yX10_noiseOf cX10_noiseOf 5 (some .int) 4 [.ref (G.2.2.1 268), .int x1, .int x2] S0 (qe_m r) := by
  refine cn_of (own := RX10) (emb := qe_m) (lv := [(0, .ref (G.2.2.1 268)), (1, .int x1), (2, .int x2)]) rfl rfl (Nat.le_of_ble_eq_true rfl) rfl (fun X => ?_)
  unfold fX10_noiseOf
  refine qr_iconst (n := 1) 0 (dkX10_noiseOf (i := 0) rfl) rfl (by decide) ?_
  refine qr_istore_n (n := 2) (lv2 := [(0, .ref (G.2.2.1 268)), (1, .int x1), (2, .int x2), (3, .int 0)]) [1, 2, 3, 0] (dkX10_noiseOf (i := 1) rfl) rfl rfl (by decide) rfl ?_
  refine qr_iconst (n := 3) 0 (dkX10_noiseOf (i := 2) rfl) rfl (by decide) ?_
  refine qr_istore (n := 5) (lv2 := [(0, .ref (G.2.2.1 268)), (1, .int x1), (2, .int x2), (3, .int 0), (4, .int 0)]) [1, 2, 3, 4, 0] (dkX10_noiseOf (i := 3) rfl) rfl (by decide) rfl ?_
  refine qr_lp3 (fun (S_1 : qv_St) (x3_1 : Int32) (x4_1 : Int32) => [(0, .ref (G.2.2.1 268)), (1, .int x1), (2, .int x2), (3, .int x3_1), (4, .int x4_1)]) (fun (S_1 : qv_St) (x3_1 : Int32) (x4_1 : Int32) => S_1) (fun self_1 hself_1 S_1 x3_1 x4_1 => ?_) qv_N S0 0 0
  refine qr_iload (n := 7) 4 (dkX10_noiseOf (i := 4) rfl) rfl rfl ?_
  refine qr_aload_n (n := 8) 0 (dkX10_noiseOf (i := 5) rfl) rfl rfl ?_
  refine qr_geta (n := 11) 268 0 9 (dkX10_noiseOf (i := 6) rfl) rfl lkO_268 rfl gnX10 (Nat.le_of_ble_eq_true rfl) kfX10_15 rfl ?_
  refine qr_geti (n := 14) 9 0 (dkX10_noiseOf (i := 7) rfl) rfl lkO_9 rfl gnX5 (Nat.le_of_ble_eq_true rfl) kfX10_37 rfl ?_
  refine qr_icmp_ge (t := 50) (n := 17) (dkX10_noiseOf (i := 8) rfl) (by decide) rfl ?_ ?_
  · refine qr_iload_n (n := 51) 3 (dkX10_noiseOf (i := 26) rfl) rfl rfl ?_
    exact qr_iret (dkX10_noiseOf (i := 27) rfl) rfl rfl
  · refine qr_iload_n (n := 18) 3 (dkX10_noiseOf (i := 9) rfl) rfl rfl ?_
    refine qr_aload_n (n := 19) 0 (dkX10_noiseOf (i := 10) rfl) rfl rfl ?_
    refine qr_geta (n := 22) 268 1 254 (dkX10_noiseOf (i := 11) rfl) rfl lkO_268 rfl gnX10 (Nat.le_of_ble_eq_true rfl) kfX10_19 rfl ?_
    refine qr_iload (n := 24) 4 (dkX10_noiseOf (i := 12) rfl) rfl rfl ?_
    refine qr_iload_n (n := 25) 1 (dkX10_noiseOf (i := 13) rfl) rfl rfl ?_
    refine qr_iload_n (n := 26) 2 (dkX10_noiseOf (i := 14) rfl) rfl rfl ?_
    refine qr_aload_n (n := 27) 0 (dkX10_noiseOf (i := 15) rfl) rfl rfl ?_
    refine qr_geta (n := 30) 268 1 254 (dkX10_noiseOf (i := 16) rfl) rfl lkO_268 rfl gnX10 (Nat.le_of_ble_eq_true rfl) kfX10_19 rfl ?_
    refine qr_iload (n := 32) 4 (dkX10_noiseOf (i := 17) rfl) rfl rfl ?_
    refine qr_iload_n (n := 33) 2 (dkX10_noiseOf (i := 18) rfl) rfl rfl ?_
    refine qr_iconst (n := 34) 0 (dkX10_noiseOf (i := 19) rfl) rfl (by decide) ?_
    refine qr_cvm (n := 37) 254 [.int x4_1, .int x2, .int 0] (dkX10_noiseOf (i := 20) rfl) rfl kvX10_42 rfl rfl (Nat.le_of_ble_eq_true rfl) rfl rfl lkO_254 rfl (wX0_ageOf G S_1 x4_1 x2 0) (fun S_2 r_1 => ?_)
    refine qr_cvm (n := 40) 254 [.int x4_1, .int x1, .int x2, .int r_1] (dkX10_noiseOf (i := 21) rfl) rfl kvX10_48 rfl rfl (Nat.le_of_ble_eq_true rfl) rfl rfl lkO_254 rfl (wX0_heardOf G S_2 x4_1 x1 x2 r_1) (fun S_3 r_2 => ?_)
    refine qr_max (n := 43) (dkX10_noiseOf (i := 22) rfl) rfl kmX10_52 kmhmax1 kmh2 kmhmax3 rfl (Nat.le_of_ble_eq_true rfl) ?_
    refine qr_b (α := Int32) (qv_mx x3_1 r_2) (lvf := fun _ => [(0, .ref (G.2.2.1 268)), (1, .int x1), (2, .int x2), (3, .int x3_1), (4, .int x4_1)]) (stf := fun z => .int z :: []) (Sf := fun _ => S_3) (fun x3_2 => ?_)
    refine qr_istore_n (n := 44) (lv2 := [(0, .ref (G.2.2.1 268)), (1, .int x1), (2, .int x2), (3, .int x3_2), (4, .int x4_1)]) [1, 2, 3, 0, 4] (dkX10_noiseOf (i := 23) rfl) rfl rfl (by decide) rfl ?_
    refine qr_iinc (n := 47) (v := 1) (lv2 := [(0, .ref (G.2.2.1 268)), (1, .int x1), (2, .int x2), (3, .int x3_2), (4, .int (x4_1 + 1))]) 4 [1, 2, 3, 4, 0] (dkX10_noiseOf (i := 24) rfl) rfl rfl (by decide) (by decide) rfl ?_
    refine qr_goto (n := 5) (dkX10_noiseOf (i := 25) rfl) (by decide) ?_
    exact hself_1 S_3 x3_2 (x4_1 + 1)
def tbX10_add : List (Nat × Instr × Nat) := [(0, .iconst 0, 1), (1, .istore 4, 2), (3, .iload 4, 2), (5, .sipush 1000, 3), (8, .if_icmp .ge 47, 3), (11, .aload_n 0, 1), (12, .getfield 11, 3), (15, .iload 4, 2), (17, .iaload, 1), (18, .aload_n 0, 1), (19, .getfield 23, 3), (22, .if_icmp .ne 27, 3), (25, .aload_n 0, 1), (26, .iload_n 1, 1), (27, .iload 4, 2), (29, .iload_n 2, 1), (30, .iadd, 1), (31, .invokevirtual 33, 3), (34, .iload_n 3, 1), (35, .if_icmp .ne 14, 3), (38, .aload_n 0, 1), (39, .getfield 11, 3), (42, .iload 4, 2), (44, .dup2, 1), (45, .iaload, 1), (46, .iconst 1, 1), (47, .iadd, 1), (48, .iastore, 1), (49, .iinc 4 1, 3), (52, .goto (-49), 3), (55, .aload_n 0, 1), (56, .dup, 1), (57, .getfield 23, 3), (60, .iconst 1, 1), (61, .iadd, 1), (62, .putfield 23, 3), (65, .return_, 1)]
set_option maxRecDepth 20000 in
theorem daX10_add : ∀ x ∈ tbX10_add, decode cX10_add x.1 = .ok x.2 := by decide +kernel
theorem dkX10_add {i pc n : Nat} {ins : Instr} (h : tbX10_add[i]? = some (pc, ins, n)) : decode cX10_add pc = .ok (ins, n) := daX10_add (pc, ins, n) (List.mem_of_getElem? h)
def fX10_add (S0 : qv_St) (x1 : Int32) (x2 : Int32) (x3 : Int32) : Option qv_St :=
  qv_j (fun (S_1 : qv_St) =>
    qv_b (qv_si S_1 268 3 ((S_1.1 268 3) + 1)) fun S_2 =>
    some S_2) fun K_1 =>
  qv_lp2 qv_N (fun self_1 (S_3 : qv_St) (x4_1 : Int32) =>
    if 1000 ≤ x4_1 then
      K_1 S_3
    else
      qv_ck x4_1 1000 <|
      qv_j (fun (S_4 : qv_St) =>
        self_1 S_4 (x4_1 + 1)) fun K_2 =>
      if (S_3.1 269 (Int32.toNatClampNeg x4_1)) = (S_3.1 268 3) then
        qv_cm (fX10_noiseOf S_3 x1 (x4_1 + x2)) fun S_5 r_1 =>
        if r_1 = x3 then
          qv_ck x4_1 1000 <|
          qv_ck x4_1 1000 <| qv_b (qv_si S_5 269 (Int32.toNatClampNeg x4_1) ((S_5.1 269 (Int32.toNatClampNeg x4_1)) + 1)) fun S_6 =>
          K_2 S_6
        else
          K_2 S_5
      else
        K_2 S_3) S0 0
set_option maxRecDepth 20000 in
set_option maxHeartbeats 4000000 in
theorem wX10_add (G : qv_GT) (S0 : qv_St) (x1 : Int32) (x2 : Int32) (x3 : Int32) : ∀ r, fX10_add S0 x1 x2 x3 = some r → Cn G Lk yX10_add cX10_add 5 none 5 [.ref (G.2.2.1 268), .int x1, .int x2, .int x3] S0 (qe_u r) := by
  refine cn_of (own := RX10) (emb := qe_u) (lv := [(0, .ref (G.2.2.1 268)), (1, .int x1), (2, .int x2), (3, .int x3)]) rfl rfl (Nat.le_of_ble_eq_true rfl) rfl (fun X => ?_)
  unfold fX10_add
  refine qr_iconst (n := 1) 0 (dkX10_add (i := 0) rfl) rfl (by decide) ?_
  refine qr_istore (n := 3) (lv2 := [(0, .ref (G.2.2.1 268)), (1, .int x1), (2, .int x2), (3, .int x3), (4, .int 0)]) [1, 2, 3, 4, 0] (dkX10_add (i := 1) rfl) rfl (by decide) rfl ?_
  refine qr_j (fun K_1 : qv_St → Option qv_St => ∀ (S_1 : qv_St), VV G Lk X RX10 cX10_add 5 none 5 qe_u 55 [(0, .ref (G.2.2.1 268))] [] S_1 (K_1 S_1)) (fun S_1 => ?_) (fun K_1 hK_1 => ?_)
  · refine qr_aload_n (n := 56) 0 (dkX10_add (i := 30) rfl) rfl rfl ?_
    refine qr_dup (n := 57) (dkX10_add (i := 31) rfl) rfl rfl ?_
    refine qr_geti (n := 60) 268 3 (dkX10_add (i := 32) rfl) rfl lkO_268 rfl gnX10 (Nat.le_of_ble_eq_true rfl) kfX10_23 rfl ?_
    refine qr_iconst (n := 61) 1 (dkX10_add (i := 33) rfl) rfl (by decide) ?_
    refine qr_iadd (n := 62) (dkX10_add (i := 34) rfl) rfl ?_
    refine qr_puti (n := 65) 268 3 (dkX10_add (i := 35) rfl) rfl lkO_268 rfl gnX10 (Nat.le_of_ble_eq_true rfl) kfX10_23 rfl tyX10_ok nmX10 rfl rfl (fun S_2 => ?_)
    exact qr_vret (dkX10_add (i := 36) rfl) rfl rfl
  · refine qr_lp2 (fun (S_3 : qv_St) (x4_1 : Int32) => [(0, .ref (G.2.2.1 268)), (1, .int x1), (2, .int x2), (3, .int x3), (4, .int x4_1)]) (fun (S_3 : qv_St) (x4_1 : Int32) => S_3) (fun self_1 hself_1 S_3 x4_1 => ?_) qv_N S0 0
    refine qr_iload (n := 5) 4 (dkX10_add (i := 2) rfl) rfl rfl ?_
    refine qr_sipush (n := 8) 1000 (dkX10_add (i := 3) rfl) rfl (by decide) ?_
    refine qr_icmp_ge (t := 55) (n := 11) (dkX10_add (i := 4) rfl) (by decide) rfl ?_ ?_
    · refine qr_sub [0] rfl ?_
      exact hK_1 S_3
    · refine qr_aload_n (n := 12) 0 (dkX10_add (i := 5) rfl) rfl rfl ?_
      refine qr_geta (n := 15) 268 2 269 (dkX10_add (i := 6) rfl) rfl lkO_268 rfl gnX10 (Nat.le_of_ble_eq_true rfl) kfX10_11 rfl ?_
      refine qr_iload (n := 17) 4 (dkX10_add (i := 7) rfl) rfl rfl ?_
      refine qr_iald (n := 18) 269 1000 (dkX10_add (i := 8) rfl) rfl lkA_269 ?_
      refine qr_aload_n (n := 19) 0 (dkX10_add (i := 9) rfl) rfl rfl ?_
      refine qr_geti (n := 22) 268 3 (dkX10_add (i := 10) rfl) rfl lkO_268 rfl gnX10 (Nat.le_of_ble_eq_true rfl) kfX10_23 rfl ?_
      refine qr_j (fun K_2 : qv_St → Option qv_St => ∀ (S_4 : qv_St), VV G Lk X RX10 cX10_add 5 none 5 qe_u 49 [(0, .ref (G.2.2.1 268)), (1, .int x1), (2, .int x2), (3, .int x3), (4, .int x4_1)] [] S_4 (K_2 S_4)) (fun S_4 => ?_) (fun K_2 hK_2 => ?_)
      · refine qr_iinc (n := 52) (v := 1) (lv2 := [(0, .ref (G.2.2.1 268)), (1, .int x1), (2, .int x2), (3, .int x3), (4, .int (x4_1 + 1))]) 4 [1, 2, 3, 4, 0] (dkX10_add (i := 28) rfl) rfl rfl (by decide) (by decide) rfl ?_
        refine qr_goto (n := 3) (dkX10_add (i := 29) rfl) (by decide) ?_
        exact hself_1 S_4 (x4_1 + 1)
      · refine qr_icmp_ne (t := 49) (n := 25) (dkX10_add (i := 11) rfl) (by decide) rfl ?_ ?_
        · exact hK_2 S_3
        · refine qr_aload_n (n := 26) 0 (dkX10_add (i := 12) rfl) rfl rfl ?_
          refine qr_iload_n (n := 27) 1 (dkX10_add (i := 13) rfl) rfl rfl ?_
          refine qr_iload (n := 29) 4 (dkX10_add (i := 14) rfl) rfl rfl ?_
          refine qr_iload_n (n := 30) 2 (dkX10_add (i := 15) rfl) rfl rfl ?_
          refine qr_iadd (n := 31) (dkX10_add (i := 16) rfl) rfl ?_
          refine qr_cvm (n := 34) 268 [.int x1, .int (x4_1 + x2)] (dkX10_add (i := 17) rfl) rfl kvX10_33 rfl rfl (Nat.le_of_ble_eq_true rfl) rfl rfl lkO_268 rfl (wX10_noiseOf G S_3 x1 (x4_1 + x2)) (fun S_5 r_1 => ?_)
          refine qr_iload_n (n := 35) 3 (dkX10_add (i := 18) rfl) rfl rfl ?_
          refine qr_icmp_ne (t := 49) (n := 38) (dkX10_add (i := 19) rfl) (by decide) rfl ?_ ?_
          · exact hK_2 S_5
          · refine qr_aload_n (n := 39) 0 (dkX10_add (i := 20) rfl) rfl rfl ?_
            refine qr_geta (n := 42) 268 2 269 (dkX10_add (i := 21) rfl) rfl lkO_268 rfl gnX10 (Nat.le_of_ble_eq_true rfl) kfX10_11 rfl ?_
            refine qr_iload (n := 44) 4 (dkX10_add (i := 22) rfl) rfl rfl ?_
            refine qr_dup2 (n := 45) (dkX10_add (i := 23) rfl) rfl rfl rfl ?_
            refine qr_iald (n := 46) 269 1000 (dkX10_add (i := 24) rfl) rfl lkA_269 ?_
            refine qr_iconst (n := 47) 1 (dkX10_add (i := 25) rfl) rfl (by decide) ?_
            refine qr_iadd (n := 48) (dkX10_add (i := 26) rfl) rfl ?_
            refine qr_iast (n := 49) 269 1000 (dkX10_add (i := 27) rfl) rfl lkA_269 (fun S_6 => ?_)
            exact hK_2 S_6
def tbX10_howMany : List (Nat × Instr × Nat) := [(0, .iconst 0, 1), (1, .istore_n 2, 1), (2, .iconst 0, 1), (3, .istore_n 3, 1), (4, .iload_n 3, 1), (5, .sipush 1000, 3), (8, .if_icmp .ge 22, 3), (11, .aload_n 0, 1), (12, .getfield 11, 3), (15, .iload_n 3, 1), (16, .iaload, 1), (17, .iload_n 1, 1), (18, .if_icmp .lt 6, 3), (21, .iinc 2 1, 3), (24, .iinc 3 1, 3), (27, .goto (-23), 3), (30, .iload_n 2, 1), (31, .ireturn, 1)]
set_option maxRecDepth 20000 in
theorem daX10_howMany : ∀ x ∈ tbX10_howMany, decode cX10_howMany x.1 = .ok x.2 := by decide +kernel
theorem dkX10_howMany {i pc n : Nat} {ins : Instr} (h : tbX10_howMany[i]? = some (pc, ins, n)) : decode cX10_howMany pc = .ok (ins, n) := daX10_howMany (pc, ins, n) (List.mem_of_getElem? h)
def fX10_howMany (S0 : qv_St) (x1 : Int32) : Option Int32 :=
  qv_lp2 qv_N (fun self_1 (x2_1 : Int32) (x3_1 : Int32) =>
    if 1000 ≤ x3_1 then
      some x2_1
    else
      qv_ck x3_1 1000 <|
      qv_j (fun (x2_2 : Int32) =>
        self_1 x2_2 (x3_1 + 1)) fun K_1 =>
      if (S0.1 269 (Int32.toNatClampNeg x3_1)) < x1 then
        K_1 x2_1
      else
        K_1 (x2_1 + 1)) 0 0
set_option maxRecDepth 20000 in
set_option maxHeartbeats 4000000 in
theorem wX10_howMany (G : qv_GT) (S0 : qv_St) (x1 : Int32) : ∀ r, fX10_howMany S0 x1 = some r → Cn G Lk yX10_howMany cX10_howMany 4 (some .int) 1 [.ref (G.2.2.1 268), .int x1] S0 ((qe_i S0) r) := by
  refine cn_of (own := RX10) (emb := (qe_i S0)) (lv := [(0, .ref (G.2.2.1 268)), (1, .int x1)]) rfl rfl (Nat.le_of_ble_eq_true rfl) rfl (fun X => ?_)
  unfold fX10_howMany
  refine qr_iconst (n := 1) 0 (dkX10_howMany (i := 0) rfl) rfl (by decide) ?_
  refine qr_istore_n (n := 2) (lv2 := [(0, .ref (G.2.2.1 268)), (1, .int x1), (2, .int 0)]) [1, 2, 0] (dkX10_howMany (i := 1) rfl) rfl rfl (by decide) rfl ?_
  refine qr_iconst (n := 3) 0 (dkX10_howMany (i := 2) rfl) rfl (by decide) ?_
  refine qr_istore_n (n := 4) (lv2 := [(0, .ref (G.2.2.1 268)), (1, .int x1), (2, .int 0), (3, .int 0)]) [1, 2, 3, 0] (dkX10_howMany (i := 3) rfl) rfl rfl (by decide) rfl ?_
  refine qr_lp2 (fun (x2_1 : Int32) (x3_1 : Int32) => [(0, .ref (G.2.2.1 268)), (1, .int x1), (2, .int x2_1), (3, .int x3_1)]) (fun (x2_1 : Int32) (x3_1 : Int32) => S0) (fun self_1 hself_1 x2_1 x3_1 => ?_) qv_N 0 0
  refine qr_iload_n (n := 5) 3 (dkX10_howMany (i := 4) rfl) rfl rfl ?_
  refine qr_sipush (n := 8) 1000 (dkX10_howMany (i := 5) rfl) rfl (by decide) ?_
  refine qr_icmp_ge (t := 30) (n := 11) (dkX10_howMany (i := 6) rfl) (by decide) rfl ?_ ?_
  · refine qr_iload_n (n := 31) 2 (dkX10_howMany (i := 16) rfl) rfl rfl ?_
    exact qr_iret (dkX10_howMany (i := 17) rfl) rfl rfl
  · refine qr_aload_n (n := 12) 0 (dkX10_howMany (i := 7) rfl) rfl rfl ?_
    refine qr_geta (n := 15) 268 2 269 (dkX10_howMany (i := 8) rfl) rfl lkO_268 rfl gnX10 (Nat.le_of_ble_eq_true rfl) kfX10_11 rfl ?_
    refine qr_iload_n (n := 16) 3 (dkX10_howMany (i := 9) rfl) rfl rfl ?_
    refine qr_iald (n := 17) 269 1000 (dkX10_howMany (i := 10) rfl) rfl lkA_269 ?_
    refine qr_iload_n (n := 18) 1 (dkX10_howMany (i := 11) rfl) rfl rfl ?_
    refine qr_j (fun K_1 : Int32 → Option Int32 => ∀ (x2_2 : Int32), VV G Lk X RX10 cX10_howMany 4 (some .int) 1 (qe_i S0) 24 [(0, .ref (G.2.2.1 268)), (1, .int x1), (2, .int x2_2), (3, .int x3_1)] [] S0 (K_1 x2_2)) (fun x2_2 => ?_) (fun K_1 hK_1 => ?_)
    · refine qr_iinc (n := 27) (v := 1) (lv2 := [(0, .ref (G.2.2.1 268)), (1, .int x1), (2, .int x2_2), (3, .int (x3_1 + 1))]) 3 [1, 2, 3, 0] (dkX10_howMany (i := 14) rfl) rfl rfl (by decide) (by decide) rfl ?_
      refine qr_goto (n := 4) (dkX10_howMany (i := 15) rfl) (by decide) ?_
      exact hself_1 x2_2 (x3_1 + 1)
    · refine qr_icmp_lt (t := 24) (n := 21) (dkX10_howMany (i := 12) rfl) (by decide) rfl ?_ ?_
      · exact hK_1 x2_1
      · refine qr_iinc (n := 24) (v := 1) (lv2 := [(0, .ref (G.2.2.1 268)), (1, .int x1), (2, .int (x2_1 + 1)), (3, .int x3_1)]) 2 [1, 2, 0, 3] (dkX10_howMany (i := 13) rfl) rfl rfl (by decide) (by decide) rfl ?_
        exact hK_1 (x2_1 + 1)
def tbX10_which : List (Nat × Instr × Nat) := [(0, .iconst 0, 1), (1, .istore_n 3, 1), (2, .iconst 0, 1), (3, .istore 4, 2), (5, .iload 4, 2), (7, .sipush 1000, 3), (10, .if_icmp .ge 31, 3), (13, .aload_n 0, 1), (14, .getfield 11, 3), (17, .iload 4, 2), (19, .iaload, 1), (20, .iload_n 1, 1), (21, .if_icmp .lt 14, 3), (24, .iload_n 3, 1), (25, .iload_n 2, 1), (26, .if_icmp .ne 6, 3), (29, .iload 4, 2), (31, .ireturn, 1), (32, .iinc 3 1, 3), (35, .iinc 4 1, 3), (38, .goto (-33), 3), (41, .iconst (-1), 1), (42, .ireturn, 1)]
set_option maxRecDepth 20000 in
theorem daX10_which : ∀ x ∈ tbX10_which, decode cX10_which x.1 = .ok x.2 := by decide +kernel
theorem dkX10_which {i pc n : Nat} {ins : Instr} (h : tbX10_which[i]? = some (pc, ins, n)) : decode cX10_which pc = .ok (ins, n) := daX10_which (pc, ins, n) (List.mem_of_getElem? h)
def fX10_which (S0 : qv_St) (x1 : Int32) (x2 : Int32) : Option Int32 :=
  qv_lp2 qv_N (fun self_1 (x3_1 : Int32) (x4_1 : Int32) =>
    if 1000 ≤ x4_1 then
      some (-1)
    else
      qv_ck x4_1 1000 <|
      qv_j (fun (x3_2 : Int32) =>
        self_1 x3_2 (x4_1 + 1)) fun K_1 =>
      if (S0.1 269 (Int32.toNatClampNeg x4_1)) < x1 then
        K_1 x3_1
      else
        if x3_1 = x2 then
          some x4_1
        else
          K_1 (x3_1 + 1)) 0 0
set_option maxRecDepth 20000 in
set_option maxHeartbeats 4000000 in
theorem wX10_which (G : qv_GT) (S0 : qv_St) (x1 : Int32) (x2 : Int32) : ∀ r, fX10_which S0 x1 x2 = some r → Cn G Lk yX10_which cX10_which 5 (some .int) 1 [.ref (G.2.2.1 268), .int x1, .int x2] S0 ((qe_i S0) r) := by
  refine cn_of (own := RX10) (emb := (qe_i S0)) (lv := [(0, .ref (G.2.2.1 268)), (1, .int x1), (2, .int x2)]) rfl rfl (Nat.le_of_ble_eq_true rfl) rfl (fun X => ?_)
  unfold fX10_which
  refine qr_iconst (n := 1) 0 (dkX10_which (i := 0) rfl) rfl (by decide) ?_
  refine qr_istore_n (n := 2) (lv2 := [(0, .ref (G.2.2.1 268)), (1, .int x1), (2, .int x2), (3, .int 0)]) [1, 2, 3, 0] (dkX10_which (i := 1) rfl) rfl rfl (by decide) rfl ?_
  refine qr_iconst (n := 3) 0 (dkX10_which (i := 2) rfl) rfl (by decide) ?_
  refine qr_istore (n := 5) (lv2 := [(0, .ref (G.2.2.1 268)), (1, .int x1), (2, .int x2), (3, .int 0), (4, .int 0)]) [1, 2, 3, 4, 0] (dkX10_which (i := 3) rfl) rfl (by decide) rfl ?_
  refine qr_lp2 (fun (x3_1 : Int32) (x4_1 : Int32) => [(0, .ref (G.2.2.1 268)), (1, .int x1), (2, .int x2), (3, .int x3_1), (4, .int x4_1)]) (fun (x3_1 : Int32) (x4_1 : Int32) => S0) (fun self_1 hself_1 x3_1 x4_1 => ?_) qv_N 0 0
  refine qr_iload (n := 7) 4 (dkX10_which (i := 4) rfl) rfl rfl ?_
  refine qr_sipush (n := 10) 1000 (dkX10_which (i := 5) rfl) rfl (by decide) ?_
  refine qr_icmp_ge (t := 41) (n := 13) (dkX10_which (i := 6) rfl) (by decide) rfl ?_ ?_
  · refine qr_iconst (n := 42) (-1) (dkX10_which (i := 21) rfl) rfl (by decide) ?_
    exact qr_iret (dkX10_which (i := 22) rfl) rfl rfl
  · refine qr_aload_n (n := 14) 0 (dkX10_which (i := 7) rfl) rfl rfl ?_
    refine qr_geta (n := 17) 268 2 269 (dkX10_which (i := 8) rfl) rfl lkO_268 rfl gnX10 (Nat.le_of_ble_eq_true rfl) kfX10_11 rfl ?_
    refine qr_iload (n := 19) 4 (dkX10_which (i := 9) rfl) rfl rfl ?_
    refine qr_iald (n := 20) 269 1000 (dkX10_which (i := 10) rfl) rfl lkA_269 ?_
    refine qr_iload_n (n := 21) 1 (dkX10_which (i := 11) rfl) rfl rfl ?_
    refine qr_j (fun K_1 : Int32 → Option Int32 => ∀ (x3_2 : Int32), VV G Lk X RX10 cX10_which 5 (some .int) 1 (qe_i S0) 35 [(0, .ref (G.2.2.1 268)), (1, .int x1), (2, .int x2), (3, .int x3_2), (4, .int x4_1)] [] S0 (K_1 x3_2)) (fun x3_2 => ?_) (fun K_1 hK_1 => ?_)
    · refine qr_iinc (n := 38) (v := 1) (lv2 := [(0, .ref (G.2.2.1 268)), (1, .int x1), (2, .int x2), (3, .int x3_2), (4, .int (x4_1 + 1))]) 4 [1, 2, 3, 4, 0] (dkX10_which (i := 19) rfl) rfl rfl (by decide) (by decide) rfl ?_
      refine qr_goto (n := 5) (dkX10_which (i := 20) rfl) (by decide) ?_
      exact hself_1 x3_2 (x4_1 + 1)
    · refine qr_icmp_lt (t := 35) (n := 24) (dkX10_which (i := 12) rfl) (by decide) rfl ?_ ?_
      · exact hK_1 x3_1
      · refine qr_iload_n (n := 25) 3 (dkX10_which (i := 13) rfl) rfl rfl ?_
        refine qr_iload_n (n := 26) 2 (dkX10_which (i := 14) rfl) rfl rfl ?_
        refine qr_icmp_ne (t := 32) (n := 29) (dkX10_which (i := 15) rfl) (by decide) rfl ?_ ?_
        · refine qr_iinc (n := 35) (v := 1) (lv2 := [(0, .ref (G.2.2.1 268)), (1, .int x1), (2, .int x2), (3, .int (x3_1 + 1)), (4, .int x4_1)]) 3 [1, 2, 3, 0, 4] (dkX10_which (i := 18) rfl) rfl rfl (by decide) (by decide) rfl ?_
          exact hK_1 (x3_1 + 1)
        · refine qr_iload (n := 31) 4 (dkX10_which (i := 16) rfl) rfl rfl ?_
          exact qr_iret (dkX10_which (i := 17) rfl) rfl rfl
def tbX11_feed : List (Nat × Instr × Nat) := [(0, .aload_n 0, 1), (1, .getfield 10, 3), (4, .getfield 96, 3), (7, .bipush 20, 2), (9, .iadd, 1), (10, .sipush 2000, 3), (13, .if_icmp .le 5, 3), (16, .iconst (-1), 1), (17, .ireturn, 1), (18, .aload_n 0, 1), (19, .getfield 10, 3), (22, .iload_n 1, 1), (23, .invokevirtual 100, 3), (26, .aload_n 0, 1), (27, .getfield 10, 3), (30, .iload_n 2, 1), (31, .invokevirtual 100, 3), (34, .aload_n 0, 1), (35, .getfield 10, 3), (38, .iload_n 3, 1), (39, .invokevirtual 100, 3), (42, .aload_n 0, 1), (43, .getfield 10, 3), (46, .iload 4, 2), (48, .invokevirtual 100, 3), (51, .aload_n 0, 1), (52, .getfield 10, 3), (55, .iload 5, 2), (57, .invokevirtual 100, 3), (60, .aload_n 0, 1), (61, .getfield 10, 3), (64, .getfield 96, 3), (67, .ireturn, 1)]
set_option maxRecDepth 20000 in
theorem daX11_feed : ∀ x ∈ tbX11_feed, decode cX11_feed x.1 = .ok x.2 := by decide +kernel
theorem dkX11_feed {i pc n : Nat} {ins : Instr} (h : tbX11_feed[i]? = some (pc, ins, n)) : decode cX11_feed pc = .ok (ins, n) := daX11_feed (pc, ins, n) (List.mem_of_getElem? h)
def fX11_feed (S0 : qv_St) (x1 : Int32) (x2 : Int32) (x3 : Int32) (x4 : Int32) (x5 : Int32) : Option (qv_St × Int32) :=
  if ((S0.1 1 1) + 20) ≤ 2000 then
    (fX8_add S0 x1).bind fun S_1 =>
    (fX8_add S_1 x2).bind fun S_2 =>
    (fX8_add S_2 x3).bind fun S_3 =>
    (fX8_add S_3 x4).bind fun S_4 =>
    (fX8_add S_4 x5).bind fun S_5 =>
    some (S_5, (S_5.1 1 1))
  else
    some (S0, (-1))
set_option maxRecDepth 20000 in
set_option maxHeartbeats 4000000 in
theorem wX11_feed (G : qv_GT) (S0 : qv_St) (x1 : Int32) (x2 : Int32) (x3 : Int32) (x4 : Int32) (x5 : Int32) : ∀ r, fX11_feed S0 x1 x2 x3 x4 x5 = some r → Cn G Lk yX11_feed cX11_feed 6 (some .int) 2 [.ref (G.2.2.1 0), .int x1, .int x2, .int x3, .int x4, .int x5] S0 (qe_m r) := by
  refine cn_of (own := RX11) (emb := qe_m) (lv := [(0, .ref (G.2.2.1 0)), (1, .int x1), (2, .int x2), (3, .int x3), (4, .int x4), (5, .int x5)]) rfl rfl (Nat.le_of_ble_eq_true rfl) rfl (fun X => ?_)
  unfold fX11_feed
  refine qr_aload_n (n := 1) 0 (dkX11_feed (i := 0) rfl) rfl rfl ?_
  refine qr_geta (n := 4) 0 0 1 (dkX11_feed (i := 1) rfl) rfl lkO_0 rfl gnX11 (Nat.le_of_ble_eq_true rfl) kfX11_10 rfl ?_
  refine qr_geti (n := 7) 1 1 (dkX11_feed (i := 2) rfl) rfl lkO_1 rfl gnX8 (Nat.le_of_ble_eq_true rfl) kfX11_96 rfl ?_
  refine qr_bipush (n := 9) 20 (dkX11_feed (i := 3) rfl) rfl (by decide) ?_
  refine qr_iadd (n := 10) (dkX11_feed (i := 4) rfl) rfl ?_
  refine qr_sipush (n := 13) 2000 (dkX11_feed (i := 5) rfl) rfl (by decide) ?_
  refine qr_icmp_le (t := 18) (n := 16) (dkX11_feed (i := 6) rfl) (by decide) rfl ?_ ?_
  · refine qr_aload_n (n := 19) 0 (dkX11_feed (i := 9) rfl) rfl rfl ?_
    refine qr_geta (n := 22) 0 0 1 (dkX11_feed (i := 10) rfl) rfl lkO_0 rfl gnX11 (Nat.le_of_ble_eq_true rfl) kfX11_10 rfl ?_
    refine qr_iload_n (n := 23) 1 (dkX11_feed (i := 11) rfl) rfl rfl ?_
    refine qr_cvu (n := 26) 1 [.int x1] (dkX11_feed (i := 12) rfl) rfl kvX11_100 rfl rfl (Nat.le_of_ble_eq_true rfl) rfl rfl lkO_1 rfl (wX8_add G S0 x1) (fun S_1 => ?_)
    refine qr_aload_n (n := 27) 0 (dkX11_feed (i := 13) rfl) rfl rfl ?_
    refine qr_geta (n := 30) 0 0 1 (dkX11_feed (i := 14) rfl) rfl lkO_0 rfl gnX11 (Nat.le_of_ble_eq_true rfl) kfX11_10 rfl ?_
    refine qr_iload_n (n := 31) 2 (dkX11_feed (i := 15) rfl) rfl rfl ?_
    refine qr_cvu (n := 34) 1 [.int x2] (dkX11_feed (i := 16) rfl) rfl kvX11_100 rfl rfl (Nat.le_of_ble_eq_true rfl) rfl rfl lkO_1 rfl (wX8_add G S_1 x2) (fun S_2 => ?_)
    refine qr_aload_n (n := 35) 0 (dkX11_feed (i := 17) rfl) rfl rfl ?_
    refine qr_geta (n := 38) 0 0 1 (dkX11_feed (i := 18) rfl) rfl lkO_0 rfl gnX11 (Nat.le_of_ble_eq_true rfl) kfX11_10 rfl ?_
    refine qr_iload_n (n := 39) 3 (dkX11_feed (i := 19) rfl) rfl rfl ?_
    refine qr_cvu (n := 42) 1 [.int x3] (dkX11_feed (i := 20) rfl) rfl kvX11_100 rfl rfl (Nat.le_of_ble_eq_true rfl) rfl rfl lkO_1 rfl (wX8_add G S_2 x3) (fun S_3 => ?_)
    refine qr_aload_n (n := 43) 0 (dkX11_feed (i := 21) rfl) rfl rfl ?_
    refine qr_geta (n := 46) 0 0 1 (dkX11_feed (i := 22) rfl) rfl lkO_0 rfl gnX11 (Nat.le_of_ble_eq_true rfl) kfX11_10 rfl ?_
    refine qr_iload (n := 48) 4 (dkX11_feed (i := 23) rfl) rfl rfl ?_
    refine qr_cvu (n := 51) 1 [.int x4] (dkX11_feed (i := 24) rfl) rfl kvX11_100 rfl rfl (Nat.le_of_ble_eq_true rfl) rfl rfl lkO_1 rfl (wX8_add G S_3 x4) (fun S_4 => ?_)
    refine qr_aload_n (n := 52) 0 (dkX11_feed (i := 25) rfl) rfl rfl ?_
    refine qr_geta (n := 55) 0 0 1 (dkX11_feed (i := 26) rfl) rfl lkO_0 rfl gnX11 (Nat.le_of_ble_eq_true rfl) kfX11_10 rfl ?_
    refine qr_iload (n := 57) 5 (dkX11_feed (i := 27) rfl) rfl rfl ?_
    refine qr_cvu (n := 60) 1 [.int x5] (dkX11_feed (i := 28) rfl) rfl kvX11_100 rfl rfl (Nat.le_of_ble_eq_true rfl) rfl rfl lkO_1 rfl (wX8_add G S_4 x5) (fun S_5 => ?_)
    refine qr_aload_n (n := 61) 0 (dkX11_feed (i := 29) rfl) rfl rfl ?_
    refine qr_geta (n := 64) 0 0 1 (dkX11_feed (i := 30) rfl) rfl lkO_0 rfl gnX11 (Nat.le_of_ble_eq_true rfl) kfX11_10 rfl ?_
    refine qr_geti (n := 67) 1 1 (dkX11_feed (i := 31) rfl) rfl lkO_1 rfl gnX8 (Nat.le_of_ble_eq_true rfl) kfX11_96 rfl ?_
    exact qr_iret (dkX11_feed (i := 32) rfl) rfl rfl
  · refine qr_iconst (n := 17) (-1) (dkX11_feed (i := 7) rfl) rfl (by decide) ?_
    exact qr_iret (dkX11_feed (i := 8) rfl) rfl rfl
def tbX11_back : List (Nat × Instr × Nat) := [(0, .iload_n 1, 1), (1, .ifCond .lt 14, 3), (4, .iload_n 1, 1), (5, .aload_n 0, 1), (6, .getfield 10, 3), (9, .getfield 96, 3), (12, .if_icmp .le 5, 3), (15, .iconst (-1), 1), (16, .ireturn, 1), (17, .aload_n 0, 1), (18, .getfield 10, 3), (21, .dup, 1), (22, .getfield 96, 3), (25, .iload_n 1, 1), (26, .isub, 1), (27, .putfield 96, 3), (30, .aload_n 0, 1), (31, .getfield 10, 3), (34, .getfield 96, 3), (37, .ireturn, 1)]
set_option maxRecDepth 20000 in
theorem daX11_back : ∀ x ∈ tbX11_back, decode cX11_back x.1 = .ok x.2 := by decide +kernel
theorem dkX11_back {i pc n : Nat} {ins : Instr} (h : tbX11_back[i]? = some (pc, ins, n)) : decode cX11_back pc = .ok (ins, n) := daX11_back (pc, ins, n) (List.mem_of_getElem? h)
def fX11_back (S0 : qv_St) (x1 : Int32) : Option (qv_St × Int32) :=
  if x1 < 0 then
    some (S0, (-1))
  else
    if x1 ≤ (S0.1 1 1) then
      qv_b (qv_si S0 1 1 ((S0.1 1 1) - x1)) fun S_1 =>
      some (S_1, (S_1.1 1 1))
    else
      some (S0, (-1))
set_option maxRecDepth 20000 in
set_option maxHeartbeats 4000000 in
theorem wX11_back (G : qv_GT) (S0 : qv_St) (x1 : Int32) : ∀ r, fX11_back S0 x1 = some r → Cn G Lk yX11_back cX11_back 2 (some .int) 1 [.ref (G.2.2.1 0), .int x1] S0 (qe_m r) := by
  refine cn_of (own := RX11) (emb := qe_m) (lv := [(0, .ref (G.2.2.1 0)), (1, .int x1)]) rfl rfl (Nat.le_of_ble_eq_true rfl) rfl (fun X => ?_)
  unfold fX11_back
  refine qr_iload_n (n := 1) 1 (dkX11_back (i := 0) rfl) rfl rfl ?_
  refine qr_if_lt (t := 15) (n := 4) (dkX11_back (i := 1) rfl) (by decide) rfl ?_ ?_
  · refine qr_iconst (n := 16) (-1) (dkX11_back (i := 7) rfl) rfl (by decide) ?_
    exact qr_iret (dkX11_back (i := 8) rfl) rfl rfl
  · refine qr_iload_n (n := 5) 1 (dkX11_back (i := 2) rfl) rfl rfl ?_
    refine qr_aload_n (n := 6) 0 (dkX11_back (i := 3) rfl) rfl rfl ?_
    refine qr_geta (n := 9) 0 0 1 (dkX11_back (i := 4) rfl) rfl lkO_0 rfl gnX11 (Nat.le_of_ble_eq_true rfl) kfX11_10 rfl ?_
    refine qr_geti (n := 12) 1 1 (dkX11_back (i := 5) rfl) rfl lkO_1 rfl gnX8 (Nat.le_of_ble_eq_true rfl) kfX11_96 rfl ?_
    refine qr_icmp_le (t := 17) (n := 15) (dkX11_back (i := 6) rfl) (by decide) rfl ?_ ?_
    · refine qr_aload_n (n := 18) 0 (dkX11_back (i := 9) rfl) rfl rfl ?_
      refine qr_geta (n := 21) 0 0 1 (dkX11_back (i := 10) rfl) rfl lkO_0 rfl gnX11 (Nat.le_of_ble_eq_true rfl) kfX11_10 rfl ?_
      refine qr_dup (n := 22) (dkX11_back (i := 11) rfl) rfl rfl ?_
      refine qr_geti (n := 25) 1 1 (dkX11_back (i := 12) rfl) rfl lkO_1 rfl gnX8 (Nat.le_of_ble_eq_true rfl) kfX11_96 rfl ?_
      refine qr_iload_n (n := 26) 1 (dkX11_back (i := 13) rfl) rfl rfl ?_
      refine qr_isub (n := 27) (dkX11_back (i := 14) rfl) rfl ?_
      refine qr_puti (n := 30) 1 1 (dkX11_back (i := 15) rfl) rfl lkO_1 rfl gnX8 (Nat.le_of_ble_eq_true rfl) kfX11_96 rfl tyX8_ok nmX8 rfl rfl (fun S_1 => ?_)
      refine qr_aload_n (n := 31) 0 (dkX11_back (i := 16) rfl) rfl rfl ?_
      refine qr_geta (n := 34) 0 0 1 (dkX11_back (i := 17) rfl) rfl lkO_0 rfl gnX11 (Nat.le_of_ble_eq_true rfl) kfX11_10 rfl ?_
      refine qr_geti (n := 37) 1 1 (dkX11_back (i := 18) rfl) rfl lkO_1 rfl gnX8 (Nat.le_of_ble_eq_true rfl) kfX11_96 rfl ?_
      exact qr_iret (dkX11_back (i := 19) rfl) rfl rfl
    · refine qr_iconst (n := 16) (-1) (dkX11_back (i := 7) rfl) rfl (by decide) ?_
      exact qr_iret (dkX11_back (i := 8) rfl) rfl rfl
