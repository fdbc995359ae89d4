def tbX4_check : List (Nat × Instr × Nat) := [(0, .aload_n 0, 1), (1, .iconst 0, 1), (2, .putfield 23, 3), (5, .aload_n 0, 1), (6, .iconst 0, 1), (7, .putfield 26, 3), (10, .aload_n 0, 1), (11, .iconst 0, 1), (12, .putfield 29, 3), (15, .aload_n 0, 1), (16, .iconst 0, 1), (17, .putfield 32, 3), (20, .aload_n 0, 1), (21, .iconst 0, 1), (22, .putfield 35, 3), (25, .iconst 0, 1), (26, .istore_n 1, 1), (27, .iload_n 1, 1), (28, .sipush 400, 3), (31, .if_icmp .ge 36, 3), (34, .aload_n 0, 1), (35, .getfield 23, 3), (38, .ifCond .ne 29, 3), (41, .aload_n 0, 1), (42, .getfield 19, 3), (45, .aload_n 0, 1), (46, .getfield 26, 3), (49, .invokevirtual 40, 3), (52, .bipush 24, 2), (54, .if_icmp .eq 13, 3), (57, .aload_n 0, 1), (58, .invokevirtual 44, 3), (61, .iinc 1 1, 3), (64, .goto (-37), 3), (67, .aload_n 0, 1), (68, .getfield 23, 3), (71, .ifCond .ne 7, 3), (74, .aload_n 0, 1), (75, .invokevirtual 47, 3), (78, .aload_n 0, 1), (79, .aload_n 0, 1), (80, .getfield 23, 3), (83, .ifCond .ne 7, 3), (86, .iconst (-1), 1), (87, .goto 14, 3), (90, .aload_n 0, 1), (91, .getfield 19, 3), (94, .aload_n 0, 1), (95, .getfield 50, 3), (98, .invokevirtual 53, 3), (101, .putfield 15, 3), (104, .return_, 1)]
set_option maxRecDepth 20000 in
theorem daX4_check : ∀ x ∈ tbX4_check, decode cX4_check x.1 = .ok x.2 := by decide +kernel
theorem dkX4_check {i pc n : Nat} {ins : Instr} (h : tbX4_check[i]? = some (pc, ins, n)) : decode cX4_check pc = .ok (ins, n) := daX4_check (pc, ins, n) (List.mem_of_getElem? h)
def fX4_check (S0 : qv_St) : Option qv_St :=
  qv_b (qv_si S0 7 8 0) fun S_1 =>
  qv_b (qv_si S_1 7 6 0) fun S_2 =>
  qv_b (qv_si S_2 7 3 0) fun S_3 =>
  qv_b (qv_si S_3 7 4 0) fun S_4 =>
  qv_b (qv_si S_4 7 5 0) fun S_5 =>
  qv_j (fun (S_6 : qv_St) =>
    qv_j (fun (S_7 : qv_St) =>
      qv_j (fun (t_1 : Int32) =>
        qv_b (qv_si S_7 7 9 t_1) fun S_8 =>
        some S_8) fun K_3 =>
      if (S_7.1 7 8) = 0 then
        K_3 (-1)
      else
        (fX9_placeAt S_7 (S_7.1 7 7)).bind fun r_1 =>
        K_3 r_1) fun K_2 =>
    if (S_6.1 7 8) = 0 then
      (fX4_checkNamesAndNumbers S_6).bind fun S_9 =>
      K_2 S_9
    else
      K_2 S_6) fun K_1 =>
  qv_lp2 qv_N (fun self_1 (S_10 : qv_St) (x1_1 : Int32) =>
    if 400 ≤ x1_1 then
      K_1 S_10
    else
      if (S_10.1 7 8) = 0 then
        (fX9_kindAt S_10 (S_10.1 7 6)).bind fun r_2 =>
        if r_2 = 24 then
          K_1 S_10
        else
          (fX4_passTell S_10).bind fun S_11 =>
          self_1 S_11 (x1_1 + 1)
      else
        K_1 S_10) S_5 0
set_option maxRecDepth 20000 in
set_option maxHeartbeats 4000000 in
theorem wX4_check (G : qv_GT) (S0 : qv_St) : ∀ r, fX4_check S0 = some r → Cn G Lk yX4_check cX4_check 2 none 6 [.ref (G.2.2.1 7)] S0 (qe_u r) := by
  refine cn_of (own := RX4) (emb := qe_u) (lv := [(0, .ref (G.2.2.1 7))]) rfl rfl (Nat.le_of_ble_eq_true rfl) rfl (fun X => ?_)
  unfold fX4_check
  refine qr_aload_n (n := 1) 0 (dkX4_check (i := 0) rfl) rfl rfl ?_
  refine qr_iconst (n := 2) 0 (dkX4_check (i := 1) rfl) rfl (by decide) ?_
  refine qr_puti (n := 5) 7 8 (dkX4_check (i := 2) rfl) rfl lkO_7 rfl gnX4 (Nat.le_of_ble_eq_true rfl) kfX4_23 rfl tyX4_ok nmX4 rfl rfl (fun S_1 => ?_)
  refine qr_aload_n (n := 6) 0 (dkX4_check (i := 3) rfl) rfl rfl ?_
  refine qr_iconst (n := 7) 0 (dkX4_check (i := 4) rfl) rfl (by decide) ?_
  refine qr_puti (n := 10) 7 6 (dkX4_check (i := 5) rfl) rfl lkO_7 rfl gnX4 (Nat.le_of_ble_eq_true rfl) kfX4_26 rfl tyX4_ok nmX4 rfl rfl (fun S_2 => ?_)
  refine qr_aload_n (n := 11) 0 (dkX4_check (i := 6) rfl) rfl rfl ?_
  refine qr_iconst (n := 12) 0 (dkX4_check (i := 7) rfl) rfl (by decide) ?_
  refine qr_puti (n := 15) 7 3 (dkX4_check (i := 8) rfl) rfl lkO_7 rfl gnX4 (Nat.le_of_ble_eq_true rfl) kfX4_29 rfl tyX4_ok nmX4 rfl rfl (fun S_3 => ?_)
  refine qr_aload_n (n := 16) 0 (dkX4_check (i := 9) rfl) rfl rfl ?_
  refine qr_iconst (n := 17) 0 (dkX4_check (i := 10) rfl) rfl (by decide) ?_
  refine qr_puti (n := 20) 7 4 (dkX4_check (i := 11) rfl) rfl lkO_7 rfl gnX4 (Nat.le_of_ble_eq_true rfl) kfX4_32 rfl tyX4_ok nmX4 rfl rfl (fun S_4 => ?_)
  refine qr_aload_n (n := 21) 0 (dkX4_check (i := 12) rfl) rfl rfl ?_
  refine qr_iconst (n := 22) 0 (dkX4_check (i := 13) rfl) rfl (by decide) ?_
  refine qr_puti (n := 25) 7 5 (dkX4_check (i := 14) rfl) rfl lkO_7 rfl gnX4 (Nat.le_of_ble_eq_true rfl) kfX4_35 rfl tyX4_ok nmX4 rfl rfl (fun S_5 => ?_)
  refine qr_iconst (n := 26) 0 (dkX4_check (i := 15) rfl) rfl (by decide) ?_
  refine qr_istore_n (n := 27) (lv2 := [(0, .ref (G.2.2.1 7)), (1, .int 0)]) [1, 0] (dkX4_check (i := 16) rfl) rfl rfl (by decide) rfl ?_
  refine qr_j (fun K_1 : qv_St → Option qv_St => ∀ (S_6 : qv_St), VV G Lk X RX4 cX4_check 2 none 6 qe_u 67 [(0, .ref (G.2.2.1 7))] [] S_6 (K_1 S_6)) (fun S_6 => ?_) (fun K_1 hK_1 => ?_)
  · refine qr_aload_n (n := 68) 0 (dkX4_check (i := 34) rfl) rfl rfl ?_
    refine qr_geti (n := 71) 7 8 (dkX4_check (i := 35) rfl) rfl lkO_7 rfl gnX4 (Nat.le_of_ble_eq_true rfl) kfX4_23 rfl ?_
    refine qr_j (fun K_2 : qv_St → Option qv_St => ∀ (S_7 : qv_St), VV G Lk X RX4 cX4_check 2 none 6 qe_u 78 [(0, .ref (G.2.2.1 7))] [] S_7 (K_2 S_7)) (fun S_7 => ?_) (fun K_2 hK_2 => ?_)
    · refine qr_aload_n (n := 79) 0 (dkX4_check (i := 39) rfl) rfl rfl ?_
      refine qr_aload_n (n := 80) 0 (dkX4_check (i := 40) rfl) rfl rfl ?_
      refine qr_geti (n := 83) 7 8 (dkX4_check (i := 41) rfl) rfl lkO_7 rfl gnX4 (Nat.le_of_ble_eq_true rfl) kfX4_23 rfl ?_
      refine qr_j (fun K_3 : Int32 → Option qv_St => ∀ (t_1 : Int32), VV G Lk X RX4 cX4_check 2 none 6 qe_u 101 [] [.int t_1, .ref (G.2.2.1 7)] S_7 (K_3 t_1)) (fun t_1 => ?_) (fun K_3 hK_3 => ?_)
      · refine qr_puti (n := 104) 7 9 (dkX4_check (i := 50) rfl) rfl lkO_7 rfl gnX4 (Nat.le_of_ble_eq_true rfl) kfX4_15 rfl tyX4_ok nmX4 rfl rfl (fun S_8 => ?_)
        exact qr_vret (dkX4_check (i := 51) rfl) rfl rfl
      · refine qr_if_ne (t := 90) (n := 86) (dkX4_check (i := 42) rfl) (by decide) rfl ?_ ?_
        · refine qr_aload_n (n := 91) 0 (dkX4_check (i := 45) rfl) rfl rfl ?_
          refine qr_geta (n := 94) 7 0 3 (dkX4_check (i := 46) rfl) rfl lkO_7 rfl gnX4 (Nat.le_of_ble_eq_true rfl) kfX4_19 rfl ?_
          refine qr_aload_n (n := 95) 0 (dkX4_check (i := 47) rfl) rfl rfl ?_
          refine qr_geti (n := 98) 7 7 (dkX4_check (i := 48) rfl) rfl lkO_7 rfl gnX4 (Nat.le_of_ble_eq_true rfl) kfX4_50 rfl ?_
          refine qr_cvi (n := 101) 3 [.int (S_7.1 7 7)] (dkX4_check (i := 49) rfl) rfl kvX4_53 rfl rfl (Nat.le_of_ble_eq_true rfl) rfl rfl lkO_3 rfl (wX9_placeAt G S_7 (S_7.1 7 7)) (fun r_1 => ?_)
          refine qr_sub [] rfl ?_
          exact hK_3 r_1
        · refine qr_iconst (n := 87) (-1) (dkX4_check (i := 43) rfl) rfl (by decide) ?_
          refine qr_goto (n := 101) (dkX4_check (i := 44) rfl) (by decide) ?_
          refine qr_sub [] rfl ?_
          exact hK_3 (-1)
    · refine qr_if_ne (t := 78) (n := 74) (dkX4_check (i := 36) rfl) (by decide) rfl ?_ ?_
      · exact hK_2 S_6
      · refine qr_aload_n (n := 75) 0 (dkX4_check (i := 37) rfl) rfl rfl ?_
        refine qr_cvu (n := 78) 7 [] (dkX4_check (i := 38) rfl) rfl kvX4_47 rfl rfl (Nat.le_of_ble_eq_true rfl) rfl rfl lkO_7 rfl (wX4_checkNamesAndNumbers G S_6) (fun S_9 => ?_)
        exact hK_2 S_9
  · refine qr_lp2 (fun (S_10 : qv_St) (x1_1 : Int32) => [(0, .ref (G.2.2.1 7)), (1, .int x1_1)]) (fun (S_10 : qv_St) (x1_1 : Int32) => S_10) (fun self_1 hself_1 S_10 x1_1 => ?_) qv_N S_5 0
    refine qr_iload_n (n := 28) 1 (dkX4_check (i := 17) rfl) rfl rfl ?_
    refine qr_sipush (n := 31) 400 (dkX4_check (i := 18) rfl) rfl (by decide) ?_
    refine qr_icmp_ge (t := 67) (n := 34) (dkX4_check (i := 19) rfl) (by decide) rfl ?_ ?_
    · refine qr_sub [0] rfl ?_
      exact hK_1 S_10
    · refine qr_aload_n (n := 35) 0 (dkX4_check (i := 20) rfl) rfl rfl ?_
      refine qr_geti (n := 38) 7 8 (dkX4_check (i := 21) rfl) rfl lkO_7 rfl gnX4 (Nat.le_of_ble_eq_true rfl) kfX4_23 rfl ?_
      refine qr_if_ne (t := 67) (n := 41) (dkX4_check (i := 22) rfl) (by decide) rfl ?_ ?_
      · refine qr_sub [0] rfl ?_
        exact hK_1 S_10
      · refine qr_aload_n (n := 42) 0 (dkX4_check (i := 23) rfl) rfl rfl ?_
        refine qr_geta (n := 45) 7 0 3 (dkX4_check (i := 24) rfl) rfl lkO_7 rfl gnX4 (Nat.le_of_ble_eq_true rfl) kfX4_19 rfl ?_
        refine qr_aload_n (n := 46) 0 (dkX4_check (i := 25) rfl) rfl rfl ?_
        refine qr_geti (n := 49) 7 6 (dkX4_check (i := 26) rfl) rfl lkO_7 rfl gnX4 (Nat.le_of_ble_eq_true rfl) kfX4_26 rfl ?_
        refine qr_cvi (n := 52) 3 [.int (S_10.1 7 6)] (dkX4_check (i := 27) rfl) rfl kvX4_40 rfl rfl (Nat.le_of_ble_eq_true rfl) rfl rfl lkO_3 rfl (wX9_kindAt G S_10 (S_10.1 7 6)) (fun r_2 => ?_)
        refine qr_bipush (n := 54) 24 (dkX4_check (i := 28) rfl) rfl (by decide) ?_
        refine qr_icmp_eq (t := 67) (n := 57) (dkX4_check (i := 29) rfl) (by decide) rfl ?_ ?_
        · refine qr_sub [0] rfl ?_
          exact hK_1 S_10
        · refine qr_aload_n (n := 58) 0 (dkX4_check (i := 30) rfl) rfl rfl ?_
          refine qr_cvu (n := 61) 7 [] (dkX4_check (i := 31) rfl) rfl kvX4_44 rfl rfl (Nat.le_of_ble_eq_true rfl) rfl rfl lkO_7 rfl (wX4_passTell G S_10) (fun S_11 => ?_)
          refine qr_iinc (n := 64) (v := 1) (lv2 := [(0, .ref (G.2.2.1 7)), (1, .int (x1_1 + 1))]) 1 [1, 0] (dkX4_check (i := 32) rfl) rfl rfl (by decide) (by decide) rfl ?_
          refine qr_goto (n := 27) (dkX4_check (i := 33) rfl) (by decide) ?_
          exact hself_1 S_11 (x1_1 + 1)
def tbX5_clear : List (Nat × Instr × Nat) := [(0, .aload_n 0, 1), (1, .iconst 0, 1), (2, .putfield 56, 3), (5, .aload_n 0, 1), (6, .iconst 0, 1), (7, .putfield 60, 3), (10, .aload_n 0, 1), (11, .iconst 0, 1), (12, .putfield 63, 3), (15, .aload_n 0, 1), (16, .getfield 43, 3), (19, .bipush (-13), 2), (21, .invokevirtual 66, 3), (24, .aload_n 0, 1), (25, .getfield 47, 3), (28, .bipush (-17), 2), (30, .invokevirtual 66, 3), (33, .aload_n 0, 1), (34, .getfield 50, 3), (37, .iconst 0, 1), (38, .invokevirtual 66, 3), (41, .aload_n 0, 1), (42, .iconst 5, 1), (43, .putfield 70, 3), (46, .aload_n 0, 1), (47, .bipush 50, 2), (49, .putfield 73, 3), (52, .aload_n 0, 1), (53, .iconst 0, 1), (54, .putfield 76, 3), (57, .return_, 1)]
set_option maxRecDepth 20000 in
theorem daX5_clear : ∀ x ∈ tbX5_clear, decode cX5_clear x.1 = .ok x.2 := by decide +kernel
theorem dkX5_clear {i pc n : Nat} {ins : Instr} (h : tbX5_clear[i]? = some (pc, ins, n)) : decode cX5_clear pc = .ok (ins, n) := daX5_clear (pc, ins, n) (List.mem_of_getElem? h)
def fX5_clear (S0 : qv_St) : Option qv_St :=
  qv_b (qv_si S0 9 0 0) fun S_1 =>
  qv_b (qv_si S_1 9 1 0) fun S_2 =>
  qv_b (qv_si S_2 9 2 0) fun S_3 =>
  (fX2_becomeOnly S_3 19 (-13)).bind fun S_4 =>
  (fX2_becomeOnly S_4 23 (-17)).bind fun S_5 =>
  (fX2_becomeOnly S_5 27 0).bind fun S_6 =>
  qv_b (qv_si S_6 9 15 5) fun S_7 =>
  qv_b (qv_si S_7 9 16 50) fun S_8 =>
  qv_b (qv_si S_8 9 17 0) fun S_9 =>
  some S_9
set_option maxRecDepth 20000 in
set_option maxHeartbeats 4000000 in
theorem wX5_clear (G : qv_GT) (S0 : qv_St) : ∀ r, fX5_clear S0 = some r → Cn G Lk yX5_clear cX5_clear 1 none 3 [.ref (G.2.2.1 9)] S0 (qe_u r) := by
  refine cn_of (own := RX5) (emb := qe_u) (lv := [(0, .ref (G.2.2.1 9))]) rfl rfl (Nat.le_of_ble_eq_true rfl) rfl (fun X => ?_)
  unfold fX5_clear
  refine qr_aload_n (n := 1) 0 (dkX5_clear (i := 0) rfl) rfl rfl ?_
  refine qr_iconst (n := 2) 0 (dkX5_clear (i := 1) rfl) rfl (by decide) ?_
  refine qr_puti (n := 5) 9 0 (dkX5_clear (i := 2) rfl) rfl lkO_9 rfl gnX5 (Nat.le_of_ble_eq_true rfl) kfX5_56 rfl tyX5_ok nmX5 rfl rfl (fun S_1 => ?_)
  refine qr_aload_n (n := 6) 0 (dkX5_clear (i := 3) rfl) rfl rfl ?_
  refine qr_iconst (n := 7) 0 (dkX5_clear (i := 4) rfl) rfl (by decide) ?_
  refine qr_puti (n := 10) 9 1 (dkX5_clear (i := 5) rfl) rfl lkO_9 rfl gnX5 (Nat.le_of_ble_eq_true rfl) kfX5_60 rfl tyX5_ok nmX5 rfl rfl (fun S_2 => ?_)
  refine qr_aload_n (n := 11) 0 (dkX5_clear (i := 6) rfl) rfl rfl ?_
  refine qr_iconst (n := 12) 0 (dkX5_clear (i := 7) rfl) rfl (by decide) ?_
  refine qr_puti (n := 15) 9 2 (dkX5_clear (i := 8) rfl) rfl lkO_9 rfl gnX5 (Nat.le_of_ble_eq_true rfl) kfX5_63 rfl tyX5_ok nmX5 rfl rfl (fun S_3 => ?_)
  refine qr_aload_n (n := 16) 0 (dkX5_clear (i := 9) rfl) rfl rfl ?_
  refine qr_geta (n := 19) 9 12 19 (dkX5_clear (i := 10) rfl) rfl lkO_9 rfl gnX5 (Nat.le_of_ble_eq_true rfl) kfX5_43 rfl ?_
  refine qr_bipush (n := 21) (-13) (dkX5_clear (i := 11) rfl) rfl (by decide) ?_
  refine qr_cvu (n := 24) 19 [.int (-13)] (dkX5_clear (i := 12) rfl) rfl kvX5_66 rfl rfl (Nat.le_of_ble_eq_true rfl) rfl rfl lkO_19 rfl (wX2_becomeOnly G S_3 19 (-13) isL_19) (fun S_4 => ?_)
  refine qr_aload_n (n := 25) 0 (dkX5_clear (i := 13) rfl) rfl rfl ?_
  refine qr_geta (n := 28) 9 13 23 (dkX5_clear (i := 14) rfl) rfl lkO_9 rfl gnX5 (Nat.le_of_ble_eq_true rfl) kfX5_47 rfl ?_
  refine qr_bipush (n := 30) (-17) (dkX5_clear (i := 15) rfl) rfl (by decide) ?_
  refine qr_cvu (n := 33) 23 [.int (-17)] (dkX5_clear (i := 16) rfl) rfl kvX5_66 rfl rfl (Nat.le_of_ble_eq_true rfl) rfl rfl lkO_23 rfl (wX2_becomeOnly G S_4 23 (-17) isL_23) (fun S_5 => ?_)
  refine qr_aload_n (n := 34) 0 (dkX5_clear (i := 17) rfl) rfl rfl ?_
  refine qr_geta (n := 37) 9 14 27 (dkX5_clear (i := 18) rfl) rfl lkO_9 rfl gnX5 (Nat.le_of_ble_eq_true rfl) kfX5_50 rfl ?_
  refine qr_iconst (n := 38) 0 (dkX5_clear (i := 19) rfl) rfl (by decide) ?_
  refine qr_cvu (n := 41) 27 [.int 0] (dkX5_clear (i := 20) rfl) rfl kvX5_66 rfl rfl (Nat.le_of_ble_eq_true rfl) rfl rfl lkO_27 rfl (wX2_becomeOnly G S_5 27 0 isL_27) (fun S_6 => ?_)
  refine qr_aload_n (n := 42) 0 (dkX5_clear (i := 21) rfl) rfl rfl ?_
  refine qr_iconst (n := 43) 5 (dkX5_clear (i := 22) rfl) rfl (by decide) ?_
  refine qr_puti (n := 46) 9 15 (dkX5_clear (i := 23) rfl) rfl lkO_9 rfl gnX5 (Nat.le_of_ble_eq_true rfl) kfX5_70 rfl tyX5_ok nmX5 rfl rfl (fun S_7 => ?_)
  refine qr_aload_n (n := 47) 0 (dkX5_clear (i := 24) rfl) rfl rfl ?_
  refine qr_bipush (n := 49) 50 (dkX5_clear (i := 25) rfl) rfl (by decide) ?_
  refine qr_puti (n := 52) 9 16 (dkX5_clear (i := 26) rfl) rfl lkO_9 rfl gnX5 (Nat.le_of_ble_eq_true rfl) kfX5_73 rfl tyX5_ok nmX5 rfl rfl (fun S_8 => ?_)
  refine qr_aload_n (n := 53) 0 (dkX5_clear (i := 27) rfl) rfl rfl ?_
  refine qr_iconst (n := 54) 0 (dkX5_clear (i := 28) rfl) rfl (by decide) ?_
  refine qr_puti (n := 57) 9 17 (dkX5_clear (i := 29) rfl) rfl lkO_9 rfl gnX5 (Nat.le_of_ble_eq_true rfl) kfX5_76 rfl tyX5_ok nmX5 rfl rfl (fun S_9 => ?_)
  exact qr_vret (dkX5_clear (i := 30) rfl) rfl rfl
def tbX5_learnNoise : List (Nat × Instr × Nat) := [(0, .aload_n 0, 1), (1, .getfield 56, 3), (4, .bipush 8, 2), (6, .if_icmp .ge 99, 3), (9, .aload_n 0, 1), (10, .getfield 9, 3), (13, .aload_n 0, 1), (14, .getfield 56, 3), (17, .iload_n 1, 1), (18, .bastore, 1), (19, .aload_n 0, 1), (20, .getfield 15, 3), (23, .aload_n 0, 1), (24, .getfield 56, 3), (27, .iload_n 2, 1), (28, .iastore, 1), (29, .aload_n 0, 1), (30, .getfield 19, 3), (33, .aload_n 0, 1), (34, .getfield 56, 3), (37, .aload_n 3, 1), (38, .iload 4, 2), (40, .invokevirtual 92, 3), (43, .iastore, 1), (44, .aload_n 0, 1), (45, .getfield 22, 3), (48, .aload_n 0, 1), (49, .getfield 56, 3), (52, .aload_n 3, 1), (53, .iload 4, 2), (55, .iconst 1, 1), (56, .iadd, 1), (57, .invokevirtual 92, 3), (60, .iastore, 1), (61, .aload_n 0, 1), (62, .getfield 25, 3), (65, .aload_n 0, 1), (66, .getfield 56, 3), (69, .aload_n 3, 1), (70, .iload 4, 2), (72, .iconst 2, 1), (73, .iadd, 1), (74, .invokevirtual 92, 3), (77, .iastore, 1), (78, .aload_n 0, 1), (79, .getfield 28, 3), (82, .aload_n 0, 1), (83, .getfield 56, 3), (86, .aload_n 3, 1), (87, .iload 4, 2), (89, .iconst 3, 1), (90, .iadd, 1), (91, .invokevirtual 92, 3), (94, .iastore, 1), (95, .aload_n 0, 1), (96, .dup, 1), (97, .getfield 56, 3), (100, .iconst 1, 1), (101, .iadd, 1), (102, .putfield 56, 3), (105, .return_, 1)]
set_option maxRecDepth 20000 in
theorem daX5_learnNoise : ∀ x ∈ tbX5_learnNoise, decode cX5_learnNoise x.1 = .ok x.2 := by decide +kernel
theorem dkX5_learnNoise {i pc n : Nat} {ins : Instr} (h : tbX5_learnNoise[i]? = some (pc, ins, n)) : decode cX5_learnNoise pc = .ok (ins, n) := daX5_learnNoise (pc, ins, n) (List.mem_of_getElem? h)
def fX5_learnNoise (S0 : qv_St) (x1 : Int32) (x2 : Int32) (x4 : Int32) : Option qv_St :=
  if 8 ≤ (S0.1 9 0) then
    some S0
  else
    qv_ck (S0.1 9 0) 8 <| qv_b (qv_si S0 10 (Int32.toNatClampNeg (S0.1 9 0)) (vp_nar .boolean x1)) fun S_1 =>
    qv_ck (S_1.1 9 0) 8 <| qv_b (qv_si S_1 11 (Int32.toNatClampNeg (S_1.1 9 0)) x2) fun S_2 =>
    (fX9_intAt S_2 x4).bind fun r_1 =>
    qv_ck (S_2.1 9 0) 8 <| qv_b (qv_si S_2 12 (Int32.toNatClampNeg (S_2.1 9 0)) r_1) fun S_3 =>
    (fX9_intAt S_3 (x4 + 1)).bind fun r_2 =>
    qv_ck (S_3.1 9 0) 8 <| qv_b (qv_si S_3 13 (Int32.toNatClampNeg (S_3.1 9 0)) r_2) fun S_4 =>
    (fX9_intAt S_4 (x4 + 2)).bind fun r_3 =>
    qv_ck (S_4.1 9 0) 8 <| qv_b (qv_si S_4 14 (Int32.toNatClampNeg (S_4.1 9 0)) r_3) fun S_5 =>
    (fX9_intAt S_5 (x4 + 3)).bind fun r_4 =>
    qv_ck (S_5.1 9 0) 8 <| qv_b (qv_si S_5 15 (Int32.toNatClampNeg (S_5.1 9 0)) r_4) fun S_6 =>
    qv_b (qv_si S_6 9 0 ((S_6.1 9 0) + 1)) fun S_7 =>
    some S_7
set_option maxRecDepth 20000 in
set_option maxHeartbeats 4000000 in
theorem wX5_learnNoise (G : qv_GT) (S0 : qv_St) (x1 : Int32) (x2 : Int32) (x4 : Int32) : ∀ r, fX5_learnNoise S0 x1 x2 x4 = some r → Cn G Lk yX5_learnNoise cX5_learnNoise 5 none 3 [.ref (G.2.2.1 9), .int x1, .int x2, .ref (G.2.2.1 3), .int x4] S0 (qe_u r) := by
  refine cn_of (own := RX5) (emb := qe_u) (lv := [(0, .ref (G.2.2.1 9)), (1, .int x1), (2, .int x2), (3, .ref (G.2.2.1 3)), (4, .int x4)]) rfl rfl (Nat.le_of_ble_eq_true rfl) rfl (fun X => ?_)
  unfold fX5_learnNoise
  refine qr_aload_n (n := 1) 0 (dkX5_learnNoise (i := 0) rfl) rfl rfl ?_
  refine qr_geti (n := 4) 9 0 (dkX5_learnNoise (i := 1) rfl) rfl lkO_9 rfl gnX5 (Nat.le_of_ble_eq_true rfl) kfX5_56 rfl ?_
  refine qr_bipush (n := 6) 8 (dkX5_learnNoise (i := 2) rfl) rfl (by decide) ?_
  refine qr_icmp_ge (t := 105) (n := 9) (dkX5_learnNoise (i := 3) rfl) (by decide) rfl ?_ ?_
  · exact qr_vret (dkX5_learnNoise (i := 60) rfl) rfl rfl
  · refine qr_aload_n (n := 10) 0 (dkX5_learnNoise (i := 4) rfl) rfl rfl ?_
    refine qr_geta (n := 13) 9 3 10 (dkX5_learnNoise (i := 5) rfl) rfl lkO_9 rfl gnX5 (Nat.le_of_ble_eq_true rfl) kfX5_9 rfl ?_
    refine qr_aload_n (n := 14) 0 (dkX5_learnNoise (i := 6) rfl) rfl rfl ?_
    refine qr_geti (n := 17) 9 0 (dkX5_learnNoise (i := 7) rfl) rfl lkO_9 rfl gnX5 (Nat.le_of_ble_eq_true rfl) kfX5_56 rfl ?_
    refine qr_iload_n (n := 18) 1 (dkX5_learnNoise (i := 8) rfl) rfl rfl ?_
    refine qr_zast (n := 19) 10 8 (dkX5_learnNoise (i := 9) rfl) rfl lkA_10 (fun S_1 => ?_)
    refine qr_aload_n (n := 20) 0 (dkX5_learnNoise (i := 10) rfl) rfl rfl ?_
    refine qr_geta (n := 23) 9 4 11 (dkX5_learnNoise (i := 11) rfl) rfl lkO_9 rfl gnX5 (Nat.le_of_ble_eq_true rfl) kfX5_15 rfl ?_
    refine qr_aload_n (n := 24) 0 (dkX5_learnNoise (i := 12) rfl) rfl rfl ?_
    refine qr_geti (n := 27) 9 0 (dkX5_learnNoise (i := 13) rfl) rfl lkO_9 rfl gnX5 (Nat.le_of_ble_eq_true rfl) kfX5_56 rfl ?_
    refine qr_iload_n (n := 28) 2 (dkX5_learnNoise (i := 14) rfl) rfl rfl ?_
    refine qr_iast (n := 29) 11 8 (dkX5_learnNoise (i := 15) rfl) rfl lkA_11 (fun S_2 => ?_)
    refine qr_aload_n (n := 30) 0 (dkX5_learnNoise (i := 16) rfl) rfl rfl ?_
    refine qr_geta (n := 33) 9 5 12 (dkX5_learnNoise (i := 17) rfl) rfl lkO_9 rfl gnX5 (Nat.le_of_ble_eq_true rfl) kfX5_19 rfl ?_
    refine qr_aload_n (n := 34) 0 (dkX5_learnNoise (i := 18) rfl) rfl rfl ?_
    refine qr_geti (n := 37) 9 0 (dkX5_learnNoise (i := 19) rfl) rfl lkO_9 rfl gnX5 (Nat.le_of_ble_eq_true rfl) kfX5_56 rfl ?_
    refine qr_aload_n (n := 38) 3 (dkX5_learnNoise (i := 20) rfl) rfl rfl ?_
    refine qr_iload (n := 40) 4 (dkX5_learnNoise (i := 21) rfl) rfl rfl ?_
    refine qr_cvi (n := 43) 3 [.int x4] (dkX5_learnNoise (i := 22) rfl) rfl kvX5_92 rfl rfl (Nat.le_of_ble_eq_true rfl) rfl rfl lkO_3 rfl (wX9_intAt G S_2 x4) (fun r_1 => ?_)
    refine qr_iast (n := 44) 12 8 (dkX5_learnNoise (i := 23) rfl) rfl lkA_12 (fun S_3 => ?_)
    refine qr_aload_n (n := 45) 0 (dkX5_learnNoise (i := 24) rfl) rfl rfl ?_
    refine qr_geta (n := 48) 9 6 13 (dkX5_learnNoise (i := 25) rfl) rfl lkO_9 rfl gnX5 (Nat.le_of_ble_eq_true rfl) kfX5_22 rfl ?_
    refine qr_aload_n (n := 49) 0 (dkX5_learnNoise (i := 26) rfl) rfl rfl ?_
    refine qr_geti (n := 52) 9 0 (dkX5_learnNoise (i := 27) rfl) rfl lkO_9 rfl gnX5 (Nat.le_of_ble_eq_true rfl) kfX5_56 rfl ?_
    refine qr_aload_n (n := 53) 3 (dkX5_learnNoise (i := 28) rfl) rfl rfl ?_
    refine qr_iload (n := 55) 4 (dkX5_learnNoise (i := 29) rfl) rfl rfl ?_
    refine qr_iconst (n := 56) 1 (dkX5_learnNoise (i := 30) rfl) rfl (by decide) ?_
    refine qr_iadd (n := 57) (dkX5_learnNoise (i := 31) rfl) rfl ?_
    refine qr_cvi (n := 60) 3 [.int (x4 + 1)] (dkX5_learnNoise (i := 32) rfl) rfl kvX5_92 rfl rfl (Nat.le_of_ble_eq_true rfl) rfl rfl lkO_3 rfl (wX9_intAt G S_3 (x4 + 1)) (fun r_2 => ?_)
    refine qr_iast (n := 61) 13 8 (dkX5_learnNoise (i := 33) rfl) rfl lkA_13 (fun S_4 => ?_)
    refine qr_aload_n (n := 62) 0 (dkX5_learnNoise (i := 34) rfl) rfl rfl ?_
    refine qr_geta (n := 65) 9 7 14 (dkX5_learnNoise (i := 35) rfl) rfl lkO_9 rfl gnX5 (Nat.le_of_ble_eq_true rfl) kfX5_25 rfl ?_
    refine qr_aload_n (n := 66) 0 (dkX5_learnNoise (i := 36) rfl) rfl rfl ?_
    refine qr_geti (n := 69) 9 0 (dkX5_learnNoise (i := 37) rfl) rfl lkO_9 rfl gnX5 (Nat.le_of_ble_eq_true rfl) kfX5_56 rfl ?_
    refine qr_aload_n (n := 70) 3 (dkX5_learnNoise (i := 38) rfl) rfl rfl ?_
    refine qr_iload (n := 72) 4 (dkX5_learnNoise (i := 39) rfl) rfl rfl ?_
    refine qr_iconst (n := 73) 2 (dkX5_learnNoise (i := 40) rfl) rfl (by decide) ?_
    refine qr_iadd (n := 74) (dkX5_learnNoise (i := 41) rfl) rfl ?_
    refine qr_cvi (n := 77) 3 [.int (x4 + 2)] (dkX5_learnNoise (i := 42) rfl) rfl kvX5_92 rfl rfl (Nat.le_of_ble_eq_true rfl) rfl rfl lkO_3 rfl (wX9_intAt G S_4 (x4 + 2)) (fun r_3 => ?_)
    refine qr_iast (n := 78) 14 8 (dkX5_learnNoise (i := 43) rfl) rfl lkA_14 (fun S_5 => ?_)
    refine qr_aload_n (n := 79) 0 (dkX5_learnNoise (i := 44) rfl) rfl rfl ?_
    refine qr_geta (n := 82) 9 8 15 (dkX5_learnNoise (i := 45) rfl) rfl lkO_9 rfl gnX5 (Nat.le_of_ble_eq_true rfl) kfX5_28 rfl ?_
    refine qr_aload_n (n := 83) 0 (dkX5_learnNoise (i := 46) rfl) rfl rfl ?_
    refine qr_geti (n := 86) 9 0 (dkX5_learnNoise (i := 47) rfl) rfl lkO_9 rfl gnX5 (Nat.le_of_ble_eq_true rfl) kfX5_56 rfl ?_
    refine qr_aload_n (n := 87) 3 (dkX5_learnNoise (i := 48) rfl) rfl rfl ?_
    refine qr_iload (n := 89) 4 (dkX5_learnNoise (i := 49) rfl) rfl rfl ?_
    refine qr_iconst (n := 90) 3 (dkX5_learnNoise (i := 50) rfl) rfl (by decide) ?_
    refine qr_iadd (n := 91) (dkX5_learnNoise (i := 51) rfl) rfl ?_
    refine qr_cvi (n := 94) 3 [.int (x4 + 3)] (dkX5_learnNoise (i := 52) rfl) rfl kvX5_92 rfl rfl (Nat.le_of_ble_eq_true rfl) rfl rfl lkO_3 rfl (wX9_intAt G S_5 (x4 + 3)) (fun r_4 => ?_)
    refine qr_iast (n := 95) 15 8 (dkX5_learnNoise (i := 53) rfl) rfl lkA_15 (fun S_6 => ?_)
    refine qr_aload_n (n := 96) 0 (dkX5_learnNoise (i := 54) rfl) rfl rfl ?_
    refine qr_dup (n := 97) (dkX5_learnNoise (i := 55) rfl) rfl rfl ?_
    refine qr_geti (n := 100) 9 0 (dkX5_learnNoise (i := 56) rfl) rfl lkO_9 rfl gnX5 (Nat.le_of_ble_eq_true rfl) kfX5_56 rfl ?_
    refine qr_iconst (n := 101) 1 (dkX5_learnNoise (i := 57) rfl) rfl (by decide) ?_
    refine qr_iadd (n := 102) (dkX5_learnNoise (i := 58) rfl) rfl ?_
    refine qr_puti (n := 105) 9 0 (dkX5_learnNoise (i := 59) rfl) rfl lkO_9 rfl gnX5 (Nat.le_of_ble_eq_true rfl) kfX5_56 rfl tyX5_ok nmX5 rfl rfl (fun S_7 => ?_)
    exact qr_vret (dkX5_learnNoise (i := 60) rfl) rfl rfl
def tbX5_learnPlace : List (Nat × Instr × Nat) := [(0, .aload_n 0, 1), (1, .getfield 60, 3), (4, .iconst 4, 1), (5, .if_icmp .ge 23, 3), (8, .aload_n 0, 1), (9, .getfield 31, 3), (12, .aload_n 0, 1), (13, .getfield 60, 3), (16, .iload_n 1, 1), (17, .iastore, 1), (18, .aload_n 0, 1), (19, .dup, 1), (20, .getfield 60, 3), (23, .iconst 1, 1), (24, .iadd, 1), (25, .putfield 60, 3), (28, .return_, 1)]
set_option maxRecDepth 20000 in
theorem daX5_learnPlace : ∀ x ∈ tbX5_learnPlace, decode cX5_learnPlace x.1 = .ok x.2 := by decide +kernel
theorem dkX5_learnPlace {i pc n : Nat} {ins : Instr} (h : tbX5_learnPlace[i]? = some (pc, ins, n)) : decode cX5_learnPlace pc = .ok (ins, n) := daX5_learnPlace (pc, ins, n) (List.mem_of_getElem? h)
def fX5_learnPlace (S0 : qv_St) (x1 : Int32) : Option qv_St :=
  if 4 ≤ (S0.1 9 1) then
    some S0
  else
    qv_ck (S0.1 9 1) 4 <| qv_b (qv_si S0 16 (Int32.toNatClampNeg (S0.1 9 1)) x1) fun S_1 =>
    qv_b (qv_si S_1 9 1 ((S_1.1 9 1) + 1)) fun S_2 =>
    some S_2
set_option maxRecDepth 20000 in
set_option maxHeartbeats 4000000 in
theorem wX5_learnPlace (G : qv_GT) (S0 : qv_St) (x1 : Int32) : ∀ r, fX5_learnPlace S0 x1 = some r → Cn G Lk yX5_learnPlace cX5_learnPlace 2 none 1 [.ref (G.2.2.1 9), .int x1] S0 (qe_u r) := by
  refine cn_of (own := RX5) (emb := qe_u) (lv := [(0, .ref (G.2.2.1 9)), (1, .int x1)]) rfl rfl (Nat.le_of_ble_eq_true rfl) rfl (fun X => ?_)
  unfold fX5_learnPlace
  refine qr_aload_n (n := 1) 0 (dkX5_learnPlace (i := 0) rfl) rfl rfl ?_
  refine qr_geti (n := 4) 9 1 (dkX5_learnPlace (i := 1) rfl) rfl lkO_9 rfl gnX5 (Nat.le_of_ble_eq_true rfl) kfX5_60 rfl ?_
  refine qr_iconst (n := 5) 4 (dkX5_learnPlace (i := 2) rfl) rfl (by decide) ?_
  refine qr_icmp_ge (t := 28) (n := 8) (dkX5_learnPlace (i := 3) rfl) (by decide) rfl ?_ ?_
  · exact qr_vret (dkX5_learnPlace (i := 16) rfl) rfl rfl
  · refine qr_aload_n (n := 9) 0 (dkX5_learnPlace (i := 4) rfl) rfl rfl ?_
    refine qr_geta (n := 12) 9 9 16 (dkX5_learnPlace (i := 5) rfl) rfl lkO_9 rfl gnX5 (Nat.le_of_ble_eq_true rfl) kfX5_31 rfl ?_
    refine qr_aload_n (n := 13) 0 (dkX5_learnPlace (i := 6) rfl) rfl rfl ?_
    refine qr_geti (n := 16) 9 1 (dkX5_learnPlace (i := 7) rfl) rfl lkO_9 rfl gnX5 (Nat.le_of_ble_eq_true rfl) kfX5_60 rfl ?_
    refine qr_iload_n (n := 17) 1 (dkX5_learnPlace (i := 8) rfl) rfl rfl ?_
    refine qr_iast (n := 18) 16 4 (dkX5_learnPlace (i := 9) rfl) rfl lkA_16 (fun S_1 => ?_)
    refine qr_aload_n (n := 19) 0 (dkX5_learnPlace (i := 10) rfl) rfl rfl ?_
    refine qr_dup (n := 20) (dkX5_learnPlace (i := 11) rfl) rfl rfl ?_
    refine qr_geti (n := 23) 9 1 (dkX5_learnPlace (i := 12) rfl) rfl lkO_9 rfl gnX5 (Nat.le_of_ble_eq_true rfl) kfX5_60 rfl ?_
    refine qr_iconst (n := 24) 1 (dkX5_learnPlace (i := 13) rfl) rfl (by decide) ?_
    refine qr_iadd (n := 25) (dkX5_learnPlace (i := 14) rfl) rfl ?_
    refine qr_puti (n := 28) 9 1 (dkX5_learnPlace (i := 15) rfl) rfl lkO_9 rfl gnX5 (Nat.le_of_ble_eq_true rfl) kfX5_60 rfl tyX5_ok nmX5 rfl rfl (fun S_2 => ?_)
    exact qr_vret (dkX5_learnPlace (i := 16) rfl) rfl rfl
def tbX5_learnShot : List (Nat × Instr × Nat) := [(0, .aload_n 0, 1), (1, .getfield 63, 3), (4, .bipush 6, 2), (6, .if_icmp .ge 33, 3), (9, .aload_n 0, 1), (10, .getfield 34, 3), (13, .aload_n 0, 1), (14, .getfield 63, 3), (17, .iload_n 1, 1), (18, .iastore, 1), (19, .aload_n 0, 1), (20, .getfield 37, 3), (23, .aload_n 0, 1), (24, .getfield 63, 3), (27, .iload_n 2, 1), (28, .iastore, 1), (29, .aload_n 0, 1), (30, .dup, 1), (31, .getfield 63, 3), (34, .iconst 1, 1), (35, .iadd, 1), (36, .putfield 63, 3), (39, .return_, 1)]
set_option maxRecDepth 20000 in
theorem daX5_learnShot : ∀ x ∈ tbX5_learnShot, decode cX5_learnShot x.1 = .ok x.2 := by decide +kernel
theorem dkX5_learnShot {i pc n : Nat} {ins : Instr} (h : tbX5_learnShot[i]? = some (pc, ins, n)) : decode cX5_learnShot pc = .ok (ins, n) := daX5_learnShot (pc, ins, n) (List.mem_of_getElem? h)
def fX5_learnShot (S0 : qv_St) (x1 : Int32) (x2 : Int32) : Option qv_St :=
  if 6 ≤ (S0.1 9 2) then
    some S0
  else
    qv_ck (S0.1 9 2) 6 <| qv_b (qv_si S0 17 (Int32.toNatClampNeg (S0.1 9 2)) x1) fun S_1 =>
    qv_ck (S_1.1 9 2) 6 <| qv_b (qv_si S_1 18 (Int32.toNatClampNeg (S_1.1 9 2)) x2) fun S_2 =>
    qv_b (qv_si S_2 9 2 ((S_2.1 9 2) + 1)) fun S_3 =>
    some S_3
set_option maxRecDepth 20000 in
set_option maxHeartbeats 4000000 in
theorem wX5_learnShot (G : qv_GT) (S0 : qv_St) (x1 : Int32) (x2 : Int32) : ∀ r, fX5_learnShot S0 x1 x2 = some r → Cn G Lk yX5_learnShot cX5_learnShot 3 none 1 [.ref (G.2.2.1 9), .int x1, .int x2] S0 (qe_u r) := by
  refine cn_of (own := RX5) (emb := qe_u) (lv := [(0, .ref (G.2.2.1 9)), (1, .int x1), (2, .int x2)]) rfl rfl (Nat.le_of_ble_eq_true rfl) rfl (fun X => ?_)
  unfold fX5_learnShot
  refine qr_aload_n (n := 1) 0 (dkX5_learnShot (i := 0) rfl) rfl rfl ?_
  refine qr_geti (n := 4) 9 2 (dkX5_learnShot (i := 1) rfl) rfl lkO_9 rfl gnX5 (Nat.le_of_ble_eq_true rfl) kfX5_63 rfl ?_
  refine qr_bipush (n := 6) 6 (dkX5_learnShot (i := 2) rfl) rfl (by decide) ?_
  refine qr_icmp_ge (t := 39) (n := 9) (dkX5_learnShot (i := 3) rfl) (by decide) rfl ?_ ?_
  · exact qr_vret (dkX5_learnShot (i := 22) rfl) rfl rfl
  · refine qr_aload_n (n := 10) 0 (dkX5_learnShot (i := 4) rfl) rfl rfl ?_
    refine qr_geta (n := 13) 9 10 17 (dkX5_learnShot (i := 5) rfl) rfl lkO_9 rfl gnX5 (Nat.le_of_ble_eq_true rfl) kfX5_34 rfl ?_
    refine qr_aload_n (n := 14) 0 (dkX5_learnShot (i := 6) rfl) rfl rfl ?_
    refine qr_geti (n := 17) 9 2 (dkX5_learnShot (i := 7) rfl) rfl lkO_9 rfl gnX5 (Nat.le_of_ble_eq_true rfl) kfX5_63 rfl ?_
    refine qr_iload_n (n := 18) 1 (dkX5_learnShot (i := 8) rfl) rfl rfl ?_
    refine qr_iast (n := 19) 17 6 (dkX5_learnShot (i := 9) rfl) rfl lkA_17 (fun S_1 => ?_)
    refine qr_aload_n (n := 20) 0 (dkX5_learnShot (i := 10) rfl) rfl rfl ?_
    refine qr_geta (n := 23) 9 11 18 (dkX5_learnShot (i := 11) rfl) rfl lkO_9 rfl gnX5 (Nat.le_of_ble_eq_true rfl) kfX5_37 rfl ?_
    refine qr_aload_n (n := 24) 0 (dkX5_learnShot (i := 12) rfl) rfl rfl ?_
    refine qr_geti (n := 27) 9 2 (dkX5_learnShot (i := 13) rfl) rfl lkO_9 rfl gnX5 (Nat.le_of_ble_eq_true rfl) kfX5_63 rfl ?_
    refine qr_iload_n (n := 28) 2 (dkX5_learnShot (i := 14) rfl) rfl rfl ?_
    refine qr_iast (n := 29) 18 6 (dkX5_learnShot (i := 15) rfl) rfl lkA_18 (fun S_2 => ?_)
    refine qr_aload_n (n := 30) 0 (dkX5_learnShot (i := 16) rfl) rfl rfl ?_
    refine qr_dup (n := 31) (dkX5_learnShot (i := 17) rfl) rfl rfl ?_
    refine qr_geti (n := 34) 9 2 (dkX5_learnShot (i := 18) rfl) rfl lkO_9 rfl gnX5 (Nat.le_of_ble_eq_true rfl) kfX5_63 rfl ?_
    refine qr_iconst (n := 35) 1 (dkX5_learnShot (i := 19) rfl) rfl (by decide) ?_
    refine qr_iadd (n := 36) (dkX5_learnShot (i := 20) rfl) rfl ?_
    refine qr_puti (n := 39) 9 2 (dkX5_learnShot (i := 21) rfl) rfl lkO_9 rfl gnX5 (Nat.le_of_ble_eq_true rfl) kfX5_63 rfl tyX5_ok nmX5 rfl rfl (fun S_3 => ?_)
    exact qr_vret (dkX5_learnShot (i := 22) rfl) rfl rfl
def tbX5_learnTell : List (Nat × Instr × Nat) := [(0, .aload_n 1, 1), (1, .iload_n 2, 1), (2, .invokevirtual 84, 3), (5, .tableswitch 206 0 9 #[55, 74, 87, 101, 122, 136, 150, 164, 178, 192], 55), (60, .aload_n 0, 1), (61, .iconst 1, 1), (62, .aload_n 1, 1), (63, .iload_n 2, 1), (64, .iconst 2, 1), (65, .iadd, 1), (66, .invokevirtual 92, 3), (69, .aload_n 1, 1), (70, .iload_n 2, 1), (71, .iconst 3, 1), (72, .iadd, 1), (73, .invokevirtual 95, 3), (76, .goto 135, 3), (79, .aload_n 0, 1), (80, .iconst 0, 1), (81, .iconst 0, 1), (82, .aload_n 1, 1), (83, .iload_n 2, 1), (84, .iconst 2, 1), (85, .iadd, 1), (86, .invokevirtual 95, 3), (89, .goto 122, 3), (92, .aload_n 0, 1), (93, .aload_n 1, 1), (94, .iload_n 2, 1), (95, .iconst 2, 1), (96, .iadd, 1), (97, .invokevirtual 92, 3), (100, .invokevirtual 99, 3), (103, .goto 108, 3), (106, .aload_n 0, 1), (107, .aload_n 1, 1), (108, .iload_n 2, 1), (109, .iconst 2, 1), (110, .iadd, 1), (111, .invokevirtual 92, 3), (114, .aload_n 1, 1), (115, .iload_n 2, 1), (116, .iconst 3, 1), (117, .iadd, 1), (118, .invokevirtual 92, 3), (121, .invokevirtual 102, 3), (124, .goto 87, 3), (127, .aload_n 0, 1), (128, .getfield 43, 3), (131, .aload_n 1, 1), (132, .iload_n 2, 1), (133, .iconst 2, 1), (134, .iadd, 1), (135, .invokevirtual 106, 3), (138, .goto 73, 3), (141, .aload_n 0, 1), (142, .getfield 47, 3), (145, .aload_n 1, 1), (146, .iload_n 2, 1), (147, .iconst 2, 1), (148, .iadd, 1), (149, .invokevirtual 106, 3), (152, .goto 59, 3), (155, .aload_n 0, 1), (156, .getfield 50, 3), (159, .aload_n 1, 1), (160, .iload_n 2, 1), (161, .iconst 2, 1), (162, .iadd, 1), (163, .invokevirtual 106, 3), (166, .goto 45, 3), (169, .aload_n 0, 1), (170, .aload_n 1, 1), (171, .iload_n 2, 1), (172, .iconst 1, 1), (173, .iadd, 1), (174, .invokevirtual 92, 3), (177, .putfield 70, 3), (180, .goto 31, 3), (183, .aload_n 0, 1), (184, .aload_n 1, 1), (185, .iload_n 2, 1), (186, .iconst 1, 1), (187, .iadd, 1), (188, .invokevirtual 92, 3), (191, .putfield 73, 3), (194, .goto 17, 3), (197, .aload_n 0, 1), (198, .aload_n 1, 1), (199, .iload_n 2, 1), (200, .iconst 1, 1), (201, .iadd, 1), (202, .invokevirtual 92, 3), (205, .putfield 76, 3), (208, .goto 3, 3), (211, .return_, 1)]
set_option maxRecDepth 20000 in
theorem daX5_learnTell : ∀ x ∈ tbX5_learnTell, decode cX5_learnTell x.1 = .ok x.2 := by decide +kernel
theorem dkX5_learnTell {i pc n : Nat} {ins : Instr} (h : tbX5_learnTell[i]? = some (pc, ins, n)) : decode cX5_learnTell pc = .ok (ins, n) := daX5_learnTell (pc, ins, n) (List.mem_of_getElem? h)
def fX5_learnTell (S0 : qv_St) (x2 : Int32) : Option qv_St :=
  (fX9_kindAt S0 x2).bind fun r_1 =>
  qv_sw r_1 0 9 [
    (fX9_intAt S0 (x2 + 2)).bind fun r_2 =>
    (fX5_learnNoise S0 1 r_2 (x2 + 3)).bind fun S_1 =>
    some S_1,
    (fX5_learnNoise S0 0 0 (x2 + 2)).bind fun S_2 =>
    some S_2,
    (fX9_intAt S0 (x2 + 2)).bind fun r_3 =>
    (fX5_learnPlace S0 r_3).bind fun S_3 =>
    some S_3,
    (fX9_intAt S0 (x2 + 2)).bind fun r_4 =>
    (fX9_intAt S0 (x2 + 3)).bind fun r_5 =>
    (fX5_learnShot S0 r_4 r_5).bind fun S_4 =>
    some S_4,
    (fX2_learn S0 19 (x2 + 2)).bind fun S_5 =>
    some S_5,
    (fX2_learn S0 23 (x2 + 2)).bind fun S_6 =>
    some S_6,
    (fX2_learn S0 27 (x2 + 2)).bind fun S_7 =>
    some S_7,
    (fX9_intAt S0 (x2 + 1)).bind fun r_6 =>
    qv_b (qv_si S0 9 15 r_6) fun S_8 =>
    some S_8,
    (fX9_intAt S0 (x2 + 1)).bind fun r_7 =>
    qv_b (qv_si S0 9 16 r_7) fun S_9 =>
    some S_9,
    (fX9_intAt S0 (x2 + 1)).bind fun r_8 =>
    qv_b (qv_si S0 9 17 r_8) fun S_10 =>
    some S_10] (
    some S0)
set_option maxRecDepth 20000 in
set_option maxHeartbeats 4000000 in
theorem wX5_learnTell (G : qv_GT) (S0 : qv_St) (x2 : Int32) : ∀ r, fX5_learnTell S0 x2 = some r → Cn G Lk yX5_learnTell cX5_learnTell 3 none 5 [.ref (G.2.2.1 9), .ref (G.2.2.1 3), .int x2] S0 (qe_u r) := by
  refine cn_of (own := RX5) (emb := qe_u) (lv := [(0, .ref (G.2.2.1 9)), (1, .ref (G.2.2.1 3)), (2, .int x2)]) rfl rfl (Nat.le_of_ble_eq_true rfl) rfl (fun X => ?_)
  unfold fX5_learnTell
  refine qr_aload_n (n := 1) 1 (dkX5_learnTell (i := 0) rfl) rfl rfl ?_
  refine qr_iload_n (n := 2) 2 (dkX5_learnTell (i := 1) rfl) rfl rfl ?_
  refine qr_cvi (n := 5) 3 [.int x2] (dkX5_learnTell (i := 2) rfl) rfl kvX5_84 rfl rfl (Nat.le_of_ble_eq_true rfl) rfl rfl lkO_3 rfl (wX9_kindAt G S0 x2) (fun r_1 => ?_)
  refine qr_sw (td := 211) (dkX5_learnTell (i := 3) rfl) (by decide) ?_ ⟨⟨60, by decide, ?_⟩, ⟨79, by decide, ?_⟩, ⟨92, by decide, ?_⟩, ⟨106, by decide, ?_⟩, ⟨127, by decide, ?_⟩, ⟨141, by decide, ?_⟩, ⟨155, by decide, ?_⟩, ⟨169, by decide, ?_⟩, ⟨183, by decide, ?_⟩, ⟨197, by decide, ?_⟩, trivial⟩
  · exact qr_vret (dkX5_learnTell (i := 95) rfl) rfl rfl
  · refine qr_aload_n (n := 61) 0 (dkX5_learnTell (i := 4) rfl) rfl rfl ?_
    refine qr_iconst (n := 62) 1 (dkX5_learnTell (i := 5) rfl) rfl (by decide) ?_
    refine qr_aload_n (n := 63) 1 (dkX5_learnTell (i := 6) rfl) rfl rfl ?_
    refine qr_iload_n (n := 64) 2 (dkX5_learnTell (i := 7) rfl) rfl rfl ?_
    refine qr_iconst (n := 65) 2 (dkX5_learnTell (i := 8) rfl) rfl (by decide) ?_
    refine qr_iadd (n := 66) (dkX5_learnTell (i := 9) rfl) rfl ?_
    refine qr_cvi (n := 69) 3 [.int (x2 + 2)] (dkX5_learnTell (i := 10) rfl) rfl kvX5_92 rfl rfl (Nat.le_of_ble_eq_true rfl) rfl rfl lkO_3 rfl (wX9_intAt G S0 (x2 + 2)) (fun r_2 => ?_)
    refine qr_aload_n (n := 70) 1 (dkX5_learnTell (i := 11) rfl) rfl rfl ?_
    refine qr_iload_n (n := 71) 2 (dkX5_learnTell (i := 12) rfl) rfl rfl ?_
    refine qr_iconst (n := 72) 3 (dkX5_learnTell (i := 13) rfl) rfl (by decide) ?_
    refine qr_iadd (n := 73) (dkX5_learnTell (i := 14) rfl) rfl ?_
    refine qr_cvu (n := 76) 9 [.int 1, .int r_2, .ref (G.2.2.1 3), .int (x2 + 3)] (dkX5_learnTell (i := 15) rfl) rfl kvX5_95 rfl rfl (Nat.le_of_ble_eq_true rfl) rfl rfl lkO_9 rfl (wX5_learnNoise G S0 1 r_2 (x2 + 3)) (fun S_1 => ?_)
    refine qr_goto (n := 211) (dkX5_learnTell (i := 16) rfl) (by decide) ?_
    exact qr_vret (dkX5_learnTell (i := 95) rfl) rfl rfl
  · refine qr_aload_n (n := 80) 0 (dkX5_learnTell (i := 17) rfl) rfl rfl ?_
    refine qr_iconst (n := 81) 0 (dkX5_learnTell (i := 18) rfl) rfl (by decide) ?_
    refine qr_iconst (n := 82) 0 (dkX5_learnTell (i := 19) rfl) rfl (by decide) ?_
    refine qr_aload_n (n := 83) 1 (dkX5_learnTell (i := 20) rfl) rfl rfl ?_
    refine qr_iload_n (n := 84) 2 (dkX5_learnTell (i := 21) rfl) rfl rfl ?_
    refine qr_iconst (n := 85) 2 (dkX5_learnTell (i := 22) rfl) rfl (by decide) ?_
    refine qr_iadd (n := 86) (dkX5_learnTell (i := 23) rfl) rfl ?_
    refine qr_cvu (n := 89) 9 [.int 0, .int 0, .ref (G.2.2.1 3), .int (x2 + 2)] (dkX5_learnTell (i := 24) rfl) rfl kvX5_95 rfl rfl (Nat.le_of_ble_eq_true rfl) rfl rfl lkO_9 rfl (wX5_learnNoise G S0 0 0 (x2 + 2)) (fun S_2 => ?_)
    refine qr_goto (n := 211) (dkX5_learnTell (i := 25) rfl) (by decide) ?_
    exact qr_vret (dkX5_learnTell (i := 95) rfl) rfl rfl
  · refine qr_aload_n (n := 93) 0 (dkX5_learnTell (i := 26) rfl) rfl rfl ?_
    refine qr_aload_n (n := 94) 1 (dkX5_learnTell (i := 27) rfl) rfl rfl ?_
    refine qr_iload_n (n := 95) 2 (dkX5_learnTell (i := 28) rfl) rfl rfl ?_
    refine qr_iconst (n := 96) 2 (dkX5_learnTell (i := 29) rfl) rfl (by decide) ?_
    refine qr_iadd (n := 97) (dkX5_learnTell (i := 30) rfl) rfl ?_
    refine qr_cvi (n := 100) 3 [.int (x2 + 2)] (dkX5_learnTell (i := 31) rfl) rfl kvX5_92 rfl rfl (Nat.le_of_ble_eq_true rfl) rfl rfl lkO_3 rfl (wX9_intAt G S0 (x2 + 2)) (fun r_3 => ?_)
    refine qr_cvu (n := 103) 9 [.int r_3] (dkX5_learnTell (i := 32) rfl) rfl kvX5_99 rfl rfl (Nat.le_of_ble_eq_true rfl) rfl rfl lkO_9 rfl (wX5_learnPlace G S0 r_3) (fun S_3 => ?_)
    refine qr_goto (n := 211) (dkX5_learnTell (i := 33) rfl) (by decide) ?_
    exact qr_vret (dkX5_learnTell (i := 95) rfl) rfl rfl
  · refine qr_aload_n (n := 107) 0 (dkX5_learnTell (i := 34) rfl) rfl rfl ?_
    refine qr_aload_n (n := 108) 1 (dkX5_learnTell (i := 35) rfl) rfl rfl ?_
    refine qr_iload_n (n := 109) 2 (dkX5_learnTell (i := 36) rfl) rfl rfl ?_
    refine qr_iconst (n := 110) 2 (dkX5_learnTell (i := 37) rfl) rfl (by decide) ?_
    refine qr_iadd (n := 111) (dkX5_learnTell (i := 38) rfl) rfl ?_
    refine qr_cvi (n := 114) 3 [.int (x2 + 2)] (dkX5_learnTell (i := 39) rfl) rfl kvX5_92 rfl rfl (Nat.le_of_ble_eq_true rfl) rfl rfl lkO_3 rfl (wX9_intAt G S0 (x2 + 2)) (fun r_4 => ?_)
    refine qr_aload_n (n := 115) 1 (dkX5_learnTell (i := 40) rfl) rfl rfl ?_
    refine qr_iload_n (n := 116) 2 (dkX5_learnTell (i := 41) rfl) rfl rfl ?_
    refine qr_iconst (n := 117) 3 (dkX5_learnTell (i := 42) rfl) rfl (by decide) ?_
    refine qr_iadd (n := 118) (dkX5_learnTell (i := 43) rfl) rfl ?_
    refine qr_cvi (n := 121) 3 [.int (x2 + 3)] (dkX5_learnTell (i := 44) rfl) rfl kvX5_92 rfl rfl (Nat.le_of_ble_eq_true rfl) rfl rfl lkO_3 rfl (wX9_intAt G S0 (x2 + 3)) (fun r_5 => ?_)
    refine qr_cvu (n := 124) 9 [.int r_4, .int r_5] (dkX5_learnTell (i := 45) rfl) rfl kvX5_102 rfl rfl (Nat.le_of_ble_eq_true rfl) rfl rfl lkO_9 rfl (wX5_learnShot G S0 r_4 r_5) (fun S_4 => ?_)
    refine qr_goto (n := 211) (dkX5_learnTell (i := 46) rfl) (by decide) ?_
    exact qr_vret (dkX5_learnTell (i := 95) rfl) rfl rfl
  · refine qr_aload_n (n := 128) 0 (dkX5_learnTell (i := 47) rfl) rfl rfl ?_
    refine qr_geta (n := 131) 9 12 19 (dkX5_learnTell (i := 48) rfl) rfl lkO_9 rfl gnX5 (Nat.le_of_ble_eq_true rfl) kfX5_43 rfl ?_
    refine qr_aload_n (n := 132) 1 (dkX5_learnTell (i := 49) rfl) rfl rfl ?_
    refine qr_iload_n (n := 133) 2 (dkX5_learnTell (i := 50) rfl) rfl rfl ?_
    refine qr_iconst (n := 134) 2 (dkX5_learnTell (i := 51) rfl) rfl (by decide) ?_
    refine qr_iadd (n := 135) (dkX5_learnTell (i := 52) rfl) rfl ?_
    refine qr_cvu (n := 138) 19 [.ref (G.2.2.1 3), .int (x2 + 2)] (dkX5_learnTell (i := 53) rfl) rfl kvX5_106 rfl rfl (Nat.le_of_ble_eq_true rfl) rfl rfl lkO_19 rfl (wX2_learn G S0 19 (x2 + 2) isL_19) (fun S_5 => ?_)
    refine qr_goto (n := 211) (dkX5_learnTell (i := 54) rfl) (by decide) ?_
    exact qr_vret (dkX5_learnTell (i := 95) rfl) rfl rfl
  · refine qr_aload_n (n := 142) 0 (dkX5_learnTell (i := 55) rfl) rfl rfl ?_
    refine qr_geta (n := 145) 9 13 23 (dkX5_learnTell (i := 56) rfl) rfl lkO_9 rfl gnX5 (Nat.le_of_ble_eq_true rfl) kfX5_47 rfl ?_
    refine qr_aload_n (n := 146) 1 (dkX5_learnTell (i := 57) rfl) rfl rfl ?_
    refine qr_iload_n (n := 147) 2 (dkX5_learnTell (i := 58) rfl) rfl rfl ?_
    refine qr_iconst (n := 148) 2 (dkX5_learnTell (i := 59) rfl) rfl (by decide) ?_
    refine qr_iadd (n := 149) (dkX5_learnTell (i := 60) rfl) rfl ?_
    refine qr_cvu (n := 152) 23 [.ref (G.2.2.1 3), .int (x2 + 2)] (dkX5_learnTell (i := 61) rfl) rfl kvX5_106 rfl rfl (Nat.le_of_ble_eq_true rfl) rfl rfl lkO_23 rfl (wX2_learn G S0 23 (x2 + 2) isL_23) (fun S_6 => ?_)
    refine qr_goto (n := 211) (dkX5_learnTell (i := 62) rfl) (by decide) ?_
    exact qr_vret (dkX5_learnTell (i := 95) rfl) rfl rfl
  · refine qr_aload_n (n := 156) 0 (dkX5_learnTell (i := 63) rfl) rfl rfl ?_
    refine qr_geta (n := 159) 9 14 27 (dkX5_learnTell (i := 64) rfl) rfl lkO_9 rfl gnX5 (Nat.le_of_ble_eq_true rfl) kfX5_50 rfl ?_
    refine qr_aload_n (n := 160) 1 (dkX5_learnTell (i := 65) rfl) rfl rfl ?_
    refine qr_iload_n (n := 161) 2 (dkX5_learnTell (i := 66) rfl) rfl rfl ?_
    refine qr_iconst (n := 162) 2 (dkX5_learnTell (i := 67) rfl) rfl (by decide) ?_
    refine qr_iadd (n := 163) (dkX5_learnTell (i := 68) rfl) rfl ?_
    refine qr_cvu (n := 166) 27 [.ref (G.2.2.1 3), .int (x2 + 2)] (dkX5_learnTell (i := 69) rfl) rfl kvX5_106 rfl rfl (Nat.le_of_ble_eq_true rfl) rfl rfl lkO_27 rfl (wX2_learn G S0 27 (x2 + 2) isL_27) (fun S_7 => ?_)
    refine qr_goto (n := 211) (dkX5_learnTell (i := 70) rfl) (by decide) ?_
    exact qr_vret (dkX5_learnTell (i := 95) rfl) rfl rfl
  · refine qr_aload_n (n := 170) 0 (dkX5_learnTell (i := 71) rfl) rfl rfl ?_
    refine qr_aload_n (n := 171) 1 (dkX5_learnTell (i := 72) rfl) rfl rfl ?_
    refine qr_iload_n (n := 172) 2 (dkX5_learnTell (i := 73) rfl) rfl rfl ?_
    refine qr_iconst (n := 173) 1 (dkX5_learnTell (i := 74) rfl) rfl (by decide) ?_
    refine qr_iadd (n := 174) (dkX5_learnTell (i := 75) rfl) rfl ?_
    refine qr_cvi (n := 177) 3 [.int (x2 + 1)] (dkX5_learnTell (i := 76) rfl) rfl kvX5_92 rfl rfl (Nat.le_of_ble_eq_true rfl) rfl rfl lkO_3 rfl (wX9_intAt G S0 (x2 + 1)) (fun r_6 => ?_)
    refine qr_puti (n := 180) 9 15 (dkX5_learnTell (i := 77) rfl) rfl lkO_9 rfl gnX5 (Nat.le_of_ble_eq_true rfl) kfX5_70 rfl tyX5_ok nmX5 rfl rfl (fun S_8 => ?_)
    refine qr_goto (n := 211) (dkX5_learnTell (i := 78) rfl) (by decide) ?_
    exact qr_vret (dkX5_learnTell (i := 95) rfl) rfl rfl
  · refine qr_aload_n (n := 184) 0 (dkX5_learnTell (i := 79) rfl) rfl rfl ?_
    refine qr_aload_n (n := 185) 1 (dkX5_learnTell (i := 80) rfl) rfl rfl ?_
    refine qr_iload_n (n := 186) 2 (dkX5_learnTell (i := 81) rfl) rfl rfl ?_
    refine qr_iconst (n := 187) 1 (dkX5_learnTell (i := 82) rfl) rfl (by decide) ?_
    refine qr_iadd (n := 188) (dkX5_learnTell (i := 83) rfl) rfl ?_
    refine qr_cvi (n := 191) 3 [.int (x2 + 1)] (dkX5_learnTell (i := 84) rfl) rfl kvX5_92 rfl rfl (Nat.le_of_ble_eq_true rfl) rfl rfl lkO_3 rfl (wX9_intAt G S0 (x2 + 1)) (fun r_7 => ?_)
    refine qr_puti (n := 194) 9 16 (dkX5_learnTell (i := 85) rfl) rfl lkO_9 rfl gnX5 (Nat.le_of_ble_eq_true rfl) kfX5_73 rfl tyX5_ok nmX5 rfl rfl (fun S_9 => ?_)
    refine qr_goto (n := 211) (dkX5_learnTell (i := 86) rfl) (by decide) ?_
    exact qr_vret (dkX5_learnTell (i := 95) rfl) rfl rfl
  · refine qr_aload_n (n := 198) 0 (dkX5_learnTell (i := 87) rfl) rfl rfl ?_
    refine qr_aload_n (n := 199) 1 (dkX5_learnTell (i := 88) rfl) rfl rfl ?_
    refine qr_iload_n (n := 200) 2 (dkX5_learnTell (i := 89) rfl) rfl rfl ?_
    refine qr_iconst (n := 201) 1 (dkX5_learnTell (i := 90) rfl) rfl (by decide) ?_
    refine qr_iadd (n := 202) (dkX5_learnTell (i := 91) rfl) rfl ?_
    refine qr_cvi (n := 205) 3 [.int (x2 + 1)] (dkX5_learnTell (i := 92) rfl) rfl kvX5_92 rfl rfl (Nat.le_of_ble_eq_true rfl) rfl rfl lkO_3 rfl (wX9_intAt G S0 (x2 + 1)) (fun r_8 => ?_)
    refine qr_puti (n := 208) 9 17 (dkX5_learnTell (i := 93) rfl) rfl lkO_9 rfl gnX5 (Nat.le_of_ble_eq_true rfl) kfX5_76 rfl tyX5_ok nmX5 rfl rfl (fun S_10 => ?_)
    refine qr_goto (n := 211) (dkX5_learnTell (i := 94) rfl) (by decide) ?_
    exact qr_vret (dkX5_learnTell (i := 95) rfl) rfl rfl
def tbX5_learn : List (Nat × Instr × Nat) := [(0, .aload_n 0, 1), (1, .invokevirtual 53, 3), (4, .iconst 0, 1), (5, .istore_n 2, 1), (6, .iconst 0, 1), (7, .istore_n 3, 1), (8, .iload_n 3, 1), (9, .aload_n 1, 1), (10, .getfield 79, 3), (13, .if_icmp .ge 29, 3), (16, .aload_n 1, 1), (17, .iload_n 3, 1), (18, .invokevirtual 84, 3), (21, .bipush 59, 2), (23, .if_icmp .ne 13, 3), (26, .aload_n 0, 1), (27, .aload_n 1, 1), (28, .iload_n 2, 1), (29, .invokevirtual 88, 3), (32, .iload_n 3, 1), (33, .iconst 1, 1), (34, .iadd, 1), (35, .istore_n 2, 1), (36, .iinc 3 1, 3), (39, .goto (-31), 3), (42, .return_, 1)]
set_option maxRecDepth 20000 in
theorem daX5_learn : ∀ x ∈ tbX5_learn, decode cX5_learn x.1 = .ok x.2 := by decide +kernel
theorem dkX5_learn {i pc n : Nat} {ins : Instr} (h : tbX5_learn[i]? = some (pc, ins, n)) : decode cX5_learn pc = .ok (ins, n) := daX5_learn (pc, ins, n) (List.mem_of_getElem? h)
def fX5_learn (S0 : qv_St) : Option qv_St :=
  (fX5_clear S0).bind fun S_1 =>
  qv_lp3 qv_N (fun self_1 (S_2 : qv_St) (x2_1 : Int32) (x3_1 : Int32) =>
    if (S_2.1 3 4) ≤ x3_1 then
      some S_2
    else
      (fX9_kindAt S_2 x3_1).bind fun r_1 =>
      qv_j (fun (S_3 : qv_St) (x2_2 : Int32) =>
        self_1 S_3 x2_2 (x3_1 + 1)) fun K_1 =>
      if r_1 = 59 then
        (fX5_learnTell S_2 x2_1).bind fun S_4 =>
        qv_b ((x3_1 + 1) : Int32) fun x2_3 =>
        K_1 S_4 x2_3
      else
        K_1 S_2 x2_1) S_1 0 0
set_option maxRecDepth 20000 in
set_option maxHeartbeats 4000000 in
theorem wX5_learn (G : qv_GT) (S0 : qv_St) : ∀ r, fX5_learn S0 = some r → Cn G Lk yX5_learn cX5_learn 4 none 6 [.ref (G.2.2.1 9), .ref (G.2.2.1 3)] S0 (qe_u r) := by
  refine cn_of (own := RX5) (emb := qe_u) (lv := [(0, .ref (G.2.2.1 9)), (1, .ref (G.2.2.1 3))]) rfl rfl (Nat.le_of_ble_eq_true rfl) rfl (fun X => ?_)
  unfold fX5_learn
  refine qr_aload_n (n := 1) 0 (dkX5_learn (i := 0) rfl) rfl rfl ?_
  refine qr_cvu (n := 4) 9 [] (dkX5_learn (i := 1) rfl) rfl kvX5_53 rfl rfl (Nat.le_of_ble_eq_true rfl) rfl rfl lkO_9 rfl (wX5_clear G S0) (fun S_1 => ?_)
  refine qr_iconst (n := 5) 0 (dkX5_learn (i := 2) rfl) rfl (by decide) ?_
  refine qr_istore_n (n := 6) (lv2 := [(0, .ref (G.2.2.1 9)), (1, .ref (G.2.2.1 3)), (2, .int 0)]) [1, 2, 0] (dkX5_learn (i := 3) rfl) rfl rfl (by decide) rfl ?_
  refine qr_iconst (n := 7) 0 (dkX5_learn (i := 4) rfl) rfl (by decide) ?_
  refine qr_istore_n (n := 8) (lv2 := [(0, .ref (G.2.2.1 9)), (1, .ref (G.2.2.1 3)), (2, .int 0), (3, .int 0)]) [1, 2, 3, 0] (dkX5_learn (i := 5) rfl) rfl rfl (by decide) rfl ?_
  refine qr_lp3 (fun (S_2 : qv_St) (x2_1 : Int32) (x3_1 : Int32) => [(0, .ref (G.2.2.1 9)), (1, .ref (G.2.2.1 3)), (2, .int x2_1), (3, .int x3_1)]) (fun (S_2 : qv_St) (x2_1 : Int32) (x3_1 : Int32) => S_2) (fun self_1 hself_1 S_2 x2_1 x3_1 => ?_) qv_N S_1 0 0
  refine qr_iload_n (n := 9) 3 (dkX5_learn (i := 6) rfl) rfl rfl ?_
  refine qr_aload_n (n := 10) 1 (dkX5_learn (i := 7) rfl) rfl rfl ?_
  refine qr_geti (n := 13) 3 4 (dkX5_learn (i := 8) rfl) rfl lkO_3 rfl gnX9 (Nat.le_of_ble_eq_true rfl) kfX5_79 rfl ?_
  refine qr_icmp_ge (t := 42) (n := 16) (dkX5_learn (i := 9) rfl) (by decide) rfl ?_ ?_
  · exact qr_vret (dkX5_learn (i := 25) rfl) rfl rfl
  · refine qr_aload_n (n := 17) 1 (dkX5_learn (i := 10) rfl) rfl rfl ?_
    refine qr_iload_n (n := 18) 3 (dkX5_learn (i := 11) rfl) rfl rfl ?_
    refine qr_cvi (n := 21) 3 [.int x3_1] (dkX5_learn (i := 12) rfl) rfl kvX5_84 rfl rfl (Nat.le_of_ble_eq_true rfl) rfl rfl lkO_3 rfl (wX9_kindAt G S_2 x3_1) (fun r_1 => ?_)
    refine qr_bipush (n := 23) 59 (dkX5_learn (i := 13) rfl) rfl (by decide) ?_
    refine qr_j (fun K_1 : qv_St → Int32 → Option qv_St => ∀ (S_3 : qv_St) (x2_2 : Int32), VV G Lk X RX5 cX5_learn 4 none 6 qe_u 36 [(0, .ref (G.2.2.1 9)), (1, .ref (G.2.2.1 3)), (2, .int x2_2), (3, .int x3_1)] [] S_3 (K_1 S_3 x2_2)) (fun S_3 x2_2 => ?_) (fun K_1 hK_1 => ?_)
    · refine qr_iinc (n := 39) (v := 1) (lv2 := [(0, .ref (G.2.2.1 9)), (1, .ref (G.2.2.1 3)), (2, .int x2_2), (3, .int (x3_1 + 1))]) 3 [1, 2, 3, 0] (dkX5_learn (i := 23) rfl) rfl rfl (by decide) (by decide) rfl ?_
      refine qr_goto (n := 8) (dkX5_learn (i := 24) rfl) (by decide) ?_
      exact hself_1 S_3 x2_2 (x3_1 + 1)
    · refine qr_icmp_ne (t := 36) (n := 26) (dkX5_learn (i := 14) rfl) (by decide) rfl ?_ ?_
      · exact hK_1 S_2 x2_1
      · refine qr_aload_n (n := 27) 0 (dkX5_learn (i := 15) rfl) rfl rfl ?_
        refine qr_aload_n (n := 28) 1 (dkX5_learn (i := 16) rfl) rfl rfl ?_
        refine qr_iload_n (n := 29) 2 (dkX5_learn (i := 17) rfl) rfl rfl ?_
        refine qr_cvu (n := 32) 9 [.ref (G.2.2.1 3), .int x2_1] (dkX5_learn (i := 18) rfl) rfl kvX5_88 rfl rfl (Nat.le_of_ble_eq_true rfl) rfl rfl lkO_9 rfl (wX5_learnTell G S_2 x2_1) (fun S_4 => ?_)
        refine qr_iload_n (n := 33) 3 (dkX5_learn (i := 19) rfl) rfl rfl ?_
        refine qr_iconst (n := 34) 1 (dkX5_learn (i := 20) rfl) rfl (by decide) ?_
        refine qr_iadd (n := 35) (dkX5_learn (i := 21) rfl) rfl ?_
        refine qr_b (α := Int32) (x3_1 + 1) (lvf := fun _ => [(0, .ref (G.2.2.1 9)), (1, .ref (G.2.2.1 3)), (2, .int x2_1), (3, .int x3_1)]) (stf := fun z => .int z :: []) (Sf := fun _ => S_4) (fun x2_3 => ?_)
        refine qr_istore_n (n := 36) (lv2 := [(0, .ref (G.2.2.1 9)), (1, .ref (G.2.2.1 3)), (2, .int x2_3), (3, .int x3_1)]) [1, 2, 0, 3] (dkX5_learn (i := 22) rfl) rfl rfl (by decide) rfl ?_
        exact hK_1 S_4 x2_3
def tbX5_priceOf : List (Nat × Instr × Nat) := [(0, .iconst 0, 1), (1, .istore_n 2, 1), (2, .iconst 0, 1), (3, .istore_n 3, 1), (4, .iload_n 3, 1), (5, .aload_n 0, 1), (6, .getfield 56, 3), (9, .if_icmp .ge 26, 3), (12, .iload_n 1, 1), (13, .iload_n 3, 1), (14, .ishr, 1), (15, .iconst 1, 1), (16, .iand, 1), (17, .ifCond .eq 12, 3), (20, .iload_n 2, 1), (21, .aload_n 0, 1), (22, .getfield 28, 3), (25, .iload_n 3, 1), (26, .iaload, 1), (27, .iadd, 1), (28, .istore_n 2, 1), (29, .iinc 3 1, 3), (32, .goto (-28), 3), (35, .iload_n 2, 1), (36, .ireturn, 1)]
set_option maxRecDepth 20000 in
theorem daX5_priceOf : ∀ x ∈ tbX5_priceOf, decode cX5_priceOf x.1 = .ok x.2 := by decide +kernel
theorem dkX5_priceOf {i pc n : Nat} {ins : Instr} (h : tbX5_priceOf[i]? = some (pc, ins, n)) : decode cX5_priceOf pc = .ok (ins, n) := daX5_priceOf (pc, ins, n) (List.mem_of_getElem? h)
def fX5_priceOf (S0 : qv_St) (x1 : Int32) : Option Int32 :=
  qv_lp2 qv_N (fun self_1 (x2_1 : Int32) (x3_1 : Int32) =>
    if (S0.1 9 0) ≤ x3_1 then
      some x2_1
    else
      qv_j (fun (x2_2 : Int32) =>
        self_1 x2_2 (x3_1 + 1)) fun K_1 =>
      if ((x1 >>> (x3_1 &&& 31)) &&& 1) = 0 then
        K_1 x2_1
      else
        qv_ck x3_1 8 <|
        qv_b ((x2_1 + (S0.1 15 (Int32.toNatClampNeg x3_1))) : Int32) fun x2_3 =>
        K_1 x2_3) 0 0
set_option maxRecDepth 20000 in
set_option maxHeartbeats 4000000 in
theorem wX5_priceOf (G : qv_GT) (S0 : qv_St) (x1 : Int32) : ∀ r, fX5_priceOf S0 x1 = some r → Cn G Lk yX5_priceOf cX5_priceOf 4 (some .int) 1 [.ref (G.2.2.1 9), .int x1] S0 ((qe_i S0) r) := by
  refine cn_of (own := RX5) (emb := (qe_i S0)) (lv := [(0, .ref (G.2.2.1 9)), (1, .int x1)]) rfl rfl (Nat.le_of_ble_eq_true rfl) rfl (fun X => ?_)
  unfold fX5_priceOf
  refine qr_iconst (n := 1) 0 (dkX5_priceOf (i := 0) rfl) rfl (by decide) ?_
  refine qr_istore_n (n := 2) (lv2 := [(0, .ref (G.2.2.1 9)), (1, .int x1), (2, .int 0)]) [1, 2, 0] (dkX5_priceOf (i := 1) rfl) rfl rfl (by decide) rfl ?_
  refine qr_iconst (n := 3) 0 (dkX5_priceOf (i := 2) rfl) rfl (by decide) ?_
  refine qr_istore_n (n := 4) (lv2 := [(0, .ref (G.2.2.1 9)), (1, .int x1), (2, .int 0), (3, .int 0)]) [1, 2, 3, 0] (dkX5_priceOf (i := 3) rfl) rfl rfl (by decide) rfl ?_
  refine qr_lp2 (fun (x2_1 : Int32) (x3_1 : Int32) => [(0, .ref (G.2.2.1 9)), (1, .int x1), (2, .int x2_1), (3, .int x3_1)]) (fun (x2_1 : Int32) (x3_1 : Int32) => S0) (fun self_1 hself_1 x2_1 x3_1 => ?_) qv_N 0 0
  refine qr_iload_n (n := 5) 3 (dkX5_priceOf (i := 4) rfl) rfl rfl ?_
  refine qr_aload_n (n := 6) 0 (dkX5_priceOf (i := 5) rfl) rfl rfl ?_
  refine qr_geti (n := 9) 9 0 (dkX5_priceOf (i := 6) rfl) rfl lkO_9 rfl gnX5 (Nat.le_of_ble_eq_true rfl) kfX5_56 rfl ?_
  refine qr_icmp_ge (t := 35) (n := 12) (dkX5_priceOf (i := 7) rfl) (by decide) rfl ?_ ?_
  · refine qr_iload_n (n := 36) 2 (dkX5_priceOf (i := 23) rfl) rfl rfl ?_
    exact qr_iret (dkX5_priceOf (i := 24) rfl) rfl rfl
  · refine qr_iload_n (n := 13) 1 (dkX5_priceOf (i := 8) rfl) rfl rfl ?_
    refine qr_iload_n (n := 14) 3 (dkX5_priceOf (i := 9) rfl) rfl rfl ?_
    refine qr_ishr (n := 15) (dkX5_priceOf (i := 10) rfl) rfl ?_
    refine qr_iconst (n := 16) 1 (dkX5_priceOf (i := 11) rfl) rfl (by decide) ?_
    refine qr_iand (n := 17) (dkX5_priceOf (i := 12) rfl) rfl ?_
    refine qr_j (fun K_1 : Int32 → Option Int32 => ∀ (x2_2 : Int32), VV G Lk X RX5 cX5_priceOf 4 (some .int) 1 (qe_i S0) 29 [(0, .ref (G.2.2.1 9)), (1, .int x1), (2, .int x2_2), (3, .int x3_1)] [] S0 (K_1 x2_2)) (fun x2_2 => ?_) (fun K_1 hK_1 => ?_)
    · refine qr_iinc (n := 32) (v := 1) (lv2 := [(0, .ref (G.2.2.1 9)), (1, .int x1), (2, .int x2_2), (3, .int (x3_1 + 1))]) 3 [1, 2, 3, 0] (dkX5_priceOf (i := 21) rfl) rfl rfl (by decide) (by decide) rfl ?_
      refine qr_goto (n := 4) (dkX5_priceOf (i := 22) rfl) (by decide) ?_
      exact hself_1 x2_2 (x3_1 + 1)
    · refine qr_if_eq (t := 29) (n := 20) (dkX5_priceOf (i := 13) rfl) (by decide) rfl ?_ ?_
      · exact hK_1 x2_1
      · refine qr_iload_n (n := 21) 2 (dkX5_priceOf (i := 14) rfl) rfl rfl ?_
        refine qr_aload_n (n := 22) 0 (dkX5_priceOf (i := 15) rfl) rfl rfl ?_
        refine qr_geta (n := 25) 9 8 15 (dkX5_priceOf (i := 16) rfl) rfl lkO_9 rfl gnX5 (Nat.le_of_ble_eq_true rfl) kfX5_28 rfl ?_
        refine qr_iload_n (n := 26) 3 (dkX5_priceOf (i := 17) rfl) rfl rfl ?_
        refine qr_iald (n := 27) 15 8 (dkX5_priceOf (i := 18) rfl) rfl lkA_15 ?_
        refine qr_iadd (n := 28) (dkX5_priceOf (i := 19) rfl) rfl ?_
        refine qr_b (α := Int32) (x2_1 + (S0.1 15 (Int32.toNatClampNeg x3_1))) (lvf := fun _ => [(0, .ref (G.2.2.1 9)), (1, .int x1), (2, .int x2_1), (3, .int x3_1)]) (stf := fun z => .int z :: []) (Sf := fun _ => S0) (fun x2_3 => ?_)
        refine qr_istore_n (n := 29) (lv2 := [(0, .ref (G.2.2.1 9)), (1, .int x1), (2, .int x2_3), (3, .int x3_1)]) [1, 2, 0, 3] (dkX5_priceOf (i := 20) rfl) rfl rfl (by decide) rfl ?_
        exact hK_1 x2_3
def tbX6_clear : List (Nat × Instr × Nat) := [(0, .aload_n 0, 1), (1, .iconst 0, 1), (2, .putfield 24, 3), (5, .aload_n 0, 1), (6, .iconst 0, 1), (7, .putfield 28, 3), (10, .aload_n 0, 1), (11, .iconst 0, 1), (12, .putfield 31, 3), (15, .aload_n 0, 1), (16, .iload_n 1, 1), (17, .putfield 34, 3), (20, .aload_n 0, 1), (21, .getfield 9, 3), (24, .iconst 0, 1), (25, .invokestatic 37, 3), (28, .aload_n 0, 1), (29, .getfield 15, 3), (32, .iconst 0, 1), (33, .invokestatic 37, 3), (36, .aload_n 0, 1), (37, .getfield 18, 3), (40, .iconst 0, 1), (41, .invokestatic 37, 3), (44, .aload_n 0, 1), (45, .getfield 21, 3), (48, .iconst 0, 1), (49, .invokestatic 37, 3), (52, .return_, 1)]
set_option maxRecDepth 20000 in
theorem daX6_clear : ∀ x ∈ tbX6_clear, decode cX6_clear x.1 = .ok x.2 := by decide +kernel
theorem dkX6_clear {i pc n : Nat} {ins : Instr} (h : tbX6_clear[i]? = some (pc, ins, n)) : decode cX6_clear pc = .ok (ins, n) := daX6_clear (pc, ins, n) (List.mem_of_getElem? h)
def fX6_clear (S0 : qv_St) (q : Nat) (x1 : Int32) : Option qv_St :=
  qv_b (qv_si S0 q 0 0) fun S_1 =>
  qv_b (qv_si S_1 q 1 0) fun S_2 =>
  qv_b (qv_si S_2 q 2 0) fun S_3 =>
  qv_b (qv_si S_3 q 3 x1) fun S_4 =>
  (fJ7_fill_53178 S_4 (q + 1) 8 0).bind fun S_5 =>
  (fJ7_fill_53178 S_5 (q + 2) 6 0).bind fun S_6 =>
  (fJ7_fill_53178 S_6 (q + 3) 6 0).bind fun S_7 =>
  (fJ7_fill_53178 S_7 (q + 4) 6 0).bind fun S_8 =>
  some S_8
set_option maxRecDepth 20000 in
set_option maxHeartbeats 4000000 in
theorem wX6_clear (G : qv_GT) (S0 : qv_St) (q : Nat) (x1 : Int32) (hq : isS q) : ∀ r, fX6_clear S0 q x1 = some r → Cn G Lk yX6_clear cX6_clear 2 none 2 [.ref (G.2.2.1 q), .int x1] S0 (qe_u r) := by
  refine cn_of (own := RX6) (emb := qe_u) (lv := [(0, .ref (G.2.2.1 q)), (1, .int x1)]) rfl rfl (Nat.le_of_ble_eq_true rfl) rfl (fun X => ?_)
  unfold fX6_clear
  refine qr_aload_n (n := 1) 0 (dkX6_clear (i := 0) rfl) rfl rfl ?_
  refine qr_iconst (n := 2) 0 (dkX6_clear (i := 1) rfl) rfl (by decide) ?_
  refine qr_puti (n := 5) q 0 (dkX6_clear (i := 2) rfl) rfl hq.1 rfl gnX6 (Nat.le_of_ble_eq_true rfl) kfX6_24 rfl tyX6_ok nmX6 rfl rfl (fun S_1 => ?_)
  refine qr_aload_n (n := 6) 0 (dkX6_clear (i := 3) rfl) rfl rfl ?_
  refine qr_iconst (n := 7) 0 (dkX6_clear (i := 4) rfl) rfl (by decide) ?_
  refine qr_puti (n := 10) q 1 (dkX6_clear (i := 5) rfl) rfl hq.1 rfl gnX6 (Nat.le_of_ble_eq_true rfl) kfX6_28 rfl tyX6_ok nmX6 rfl rfl (fun S_2 => ?_)
  refine qr_aload_n (n := 11) 0 (dkX6_clear (i := 6) rfl) rfl rfl ?_
  refine qr_iconst (n := 12) 0 (dkX6_clear (i := 7) rfl) rfl (by decide) ?_
  refine qr_puti (n := 15) q 2 (dkX6_clear (i := 8) rfl) rfl hq.1 rfl gnX6 (Nat.le_of_ble_eq_true rfl) kfX6_31 rfl tyX6_ok nmX6 rfl rfl (fun S_3 => ?_)
  refine qr_aload_n (n := 16) 0 (dkX6_clear (i := 9) rfl) rfl rfl ?_
  refine qr_iload_n (n := 17) 1 (dkX6_clear (i := 10) rfl) rfl rfl ?_
  refine qr_puti (n := 20) q 3 (dkX6_clear (i := 11) rfl) rfl hq.1 rfl gnX6 (Nat.le_of_ble_eq_true rfl) kfX6_34 rfl tyX6_ok nmX6 rfl rfl (fun S_4 => ?_)
  refine qr_aload_n (n := 21) 0 (dkX6_clear (i := 12) rfl) rfl rfl ?_
  refine qr_geta (n := 24) q 4 (q + 1) (dkX6_clear (i := 13) rfl) rfl hq.1 rfl gnX6 (Nat.le_of_ble_eq_true rfl) kfX6_9 rfl ?_
  refine qr_iconst (n := 25) 0 (dkX6_clear (i := 14) rfl) rfl (by decide) ?_
  refine qr_csu (n := 28) [.ref (G.2.2.1 (q + 1)), .int 0] (dkX6_clear (i := 15) rfl) rfl kvX6_37 rfl rfl (Nat.le_of_ble_eq_true rfl) rfl rfl (wJ7_fill_53178 G S_4 (q + 1) 8 0 hq.2.1) (fun S_5 => ?_)
  refine qr_aload_n (n := 29) 0 (dkX6_clear (i := 16) rfl) rfl rfl ?_
  refine qr_geta (n := 32) q 5 (q + 2) (dkX6_clear (i := 17) rfl) rfl hq.1 rfl gnX6 (Nat.le_of_ble_eq_true rfl) kfX6_15 rfl ?_
  refine qr_iconst (n := 33) 0 (dkX6_clear (i := 18) rfl) rfl (by decide) ?_
  refine qr_csu (n := 36) [.ref (G.2.2.1 (q + 2)), .int 0] (dkX6_clear (i := 19) rfl) rfl kvX6_37 rfl rfl (Nat.le_of_ble_eq_true rfl) rfl rfl (wJ7_fill_53178 G S_5 (q + 2) 6 0 hq.2.2.1) (fun S_6 => ?_)
  refine qr_aload_n (n := 37) 0 (dkX6_clear (i := 20) rfl) rfl rfl ?_
  refine qr_geta (n := 40) q 6 (q + 3) (dkX6_clear (i := 21) rfl) rfl hq.1 rfl gnX6 (Nat.le_of_ble_eq_true rfl) kfX6_18 rfl ?_
  refine qr_iconst (n := 41) 0 (dkX6_clear (i := 22) rfl) rfl (by decide) ?_
  refine qr_csu (n := 44) [.ref (G.2.2.1 (q + 3)), .int 0] (dkX6_clear (i := 23) rfl) rfl kvX6_37 rfl rfl (Nat.le_of_ble_eq_true rfl) rfl rfl (wJ7_fill_53178 G S_6 (q + 3) 6 0 hq.2.2.2.1) (fun S_7 => ?_)
  refine qr_aload_n (n := 45) 0 (dkX6_clear (i := 24) rfl) rfl rfl ?_
  refine qr_geta (n := 48) q 7 (q + 4) (dkX6_clear (i := 25) rfl) rfl hq.1 rfl gnX6 (Nat.le_of_ble_eq_true rfl) kfX6_21 rfl ?_
  refine qr_iconst (n := 49) 0 (dkX6_clear (i := 26) rfl) rfl (by decide) ?_
  refine qr_csu (n := 52) [.ref (G.2.2.1 (q + 4)), .int 0] (dkX6_clear (i := 27) rfl) rfl kvX6_37 rfl rfl (Nat.le_of_ble_eq_true rfl) rfl rfl (wJ7_fill_53178 G S_7 (q + 4) 6 0 hq.2.2.2.2) (fun S_8 => ?_)
  exact qr_vret (dkX6_clear (i := 28) rfl) rfl rfl
def tbX6_stand : List (Nat × Instr × Nat) := [(0, .aload_n 0, 1), (1, .dup, 1), (2, .getfield 24, 3), (5, .iload_n 1, 1), (6, .iadd, 1), (7, .putfield 24, 3), (10, .aload_n 0, 1), (11, .dup, 1), (12, .getfield 31, 3), (15, .iload_n 1, 1), (16, .iadd, 1), (17, .putfield 31, 3), (20, .return_, 1)]
set_option maxRecDepth 20000 in
theorem daX6_stand : ∀ x ∈ tbX6_stand, decode cX6_stand x.1 = .ok x.2 := by decide +kernel
theorem dkX6_stand {i pc n : Nat} {ins : Instr} (h : tbX6_stand[i]? = some (pc, ins, n)) : decode cX6_stand pc = .ok (ins, n) := daX6_stand (pc, ins, n) (List.mem_of_getElem? h)
def fX6_stand (S0 : qv_St) (q : Nat) (x1 : Int32) : Option qv_St :=
  qv_b (qv_si S0 q 0 ((S0.1 q 0) + x1)) fun S_1 =>
  qv_b (qv_si S_1 q 2 ((S_1.1 q 2) + x1)) fun S_2 =>
  some S_2
set_option maxRecDepth 20000 in
set_option maxHeartbeats 4000000 in
theorem wX6_stand (G : qv_GT) (S0 : qv_St) (q : Nat) (x1 : Int32) (hq : isS q) : ∀ r, fX6_stand S0 q x1 = some r → Cn G Lk yX6_stand cX6_stand 2 none 1 [.ref (G.2.2.1 q), .int x1] S0 (qe_u r) := by
  refine cn_of (own := RX6) (emb := qe_u) (lv := [(0, .ref (G.2.2.1 q)), (1, .int x1)]) rfl rfl (Nat.le_of_ble_eq_true rfl) rfl (fun X => ?_)
  unfold fX6_stand
  refine qr_aload_n (n := 1) 0 (dkX6_stand (i := 0) rfl) rfl rfl ?_
  refine qr_dup (n := 2) (dkX6_stand (i := 1) rfl) rfl rfl ?_
  refine qr_geti (n := 5) q 0 (dkX6_stand (i := 2) rfl) rfl hq.1 rfl gnX6 (Nat.le_of_ble_eq_true rfl) kfX6_24 rfl ?_
  refine qr_iload_n (n := 6) 1 (dkX6_stand (i := 3) rfl) rfl rfl ?_
  refine qr_iadd (n := 7) (dkX6_stand (i := 4) rfl) rfl ?_
  refine qr_puti (n := 10) q 0 (dkX6_stand (i := 5) rfl) rfl hq.1 rfl gnX6 (Nat.le_of_ble_eq_true rfl) kfX6_24 rfl tyX6_ok nmX6 rfl rfl (fun S_1 => ?_)
  refine qr_aload_n (n := 11) 0 (dkX6_stand (i := 6) rfl) rfl rfl ?_
  refine qr_dup (n := 12) (dkX6_stand (i := 7) rfl) rfl rfl ?_
  refine qr_geti (n := 15) q 2 (dkX6_stand (i := 8) rfl) rfl hq.1 rfl gnX6 (Nat.le_of_ble_eq_true rfl) kfX6_31 rfl ?_
  refine qr_iload_n (n := 16) 1 (dkX6_stand (i := 9) rfl) rfl rfl ?_
  refine qr_iadd (n := 17) (dkX6_stand (i := 10) rfl) rfl ?_
  refine qr_puti (n := 20) q 2 (dkX6_stand (i := 11) rfl) rfl hq.1 rfl gnX6 (Nat.le_of_ble_eq_true rfl) kfX6_31 rfl tyX6_ok nmX6 rfl rfl (fun S_2 => ?_)
  exact qr_vret (dkX6_stand (i := 12) rfl) rfl rfl
def tbX6_addTake : List (Nat × Instr × Nat) := [(0, .aload_n 0, 1), (1, .getfield 15, 3), (4, .iload_n 1, 1), (5, .dup2, 1), (6, .iaload, 1), (7, .iload_n 2, 1), (8, .ior, 1), (9, .iastore, 1), (10, .aload_n 0, 1), (11, .getfield 18, 3), (14, .iload_n 1, 1), (15, .dup2, 1), (16, .iaload, 1), (17, .iconst 1, 1), (18, .iadd, 1), (19, .iastore, 1), (20, .iload_n 2, 1), (21, .iload_n 3, 1), (22, .if_icmp .ne 13, 3), (25, .aload_n 0, 1), (26, .getfield 21, 3), (29, .iload_n 1, 1), (30, .dup2, 1), (31, .iaload, 1), (32, .iconst 1, 1), (33, .iadd, 1), (34, .iastore, 1), (35, .return_, 1)]
set_option maxRecDepth 20000 in
theorem daX6_addTake : ∀ x ∈ tbX6_addTake, decode cX6_addTake x.1 = .ok x.2 := by decide +kernel
theorem dkX6_addTake {i pc n : Nat} {ins : Instr} (h : tbX6_addTake[i]? = some (pc, ins, n)) : decode cX6_addTake pc = .ok (ins, n) := daX6_addTake (pc, ins, n) (List.mem_of_getElem? h)
def fX6_addTake (S0 : qv_St) (q : Nat) (x1 : Int32) (x2 : Int32) (x3 : Int32) : Option qv_St :=
  qv_ck x1 6 <|
  qv_ck x1 6 <| qv_b (qv_si S0 (q + 2) (Int32.toNatClampNeg x1) ((S0.1 (q + 2) (Int32.toNatClampNeg x1)) ||| x2)) fun S_1 =>
  qv_ck x1 6 <|
  qv_ck x1 6 <| qv_b (qv_si S_1 (q + 3) (Int32.toNatClampNeg x1) ((S_1.1 (q + 3) (Int32.toNatClampNeg x1)) + 1)) fun S_2 =>
  if x2 = x3 then
    qv_ck x1 6 <|
    qv_ck x1 6 <| qv_b (qv_si S_2 (q + 4) (Int32.toNatClampNeg x1) ((S_2.1 (q + 4) (Int32.toNatClampNeg x1)) + 1)) fun S_3 =>
    some S_3
  else
    some S_2
set_option maxRecDepth 20000 in
set_option maxHeartbeats 4000000 in
theorem wX6_addTake (G : qv_GT) (S0 : qv_St) (q : Nat) (x1 : Int32) (x2 : Int32) (x3 : Int32) (hq : isS q) : ∀ r, fX6_addTake S0 q x1 x2 x3 = some r → Cn G Lk yX6_addTake cX6_addTake 4 none 1 [.ref (G.2.2.1 q), .int x1, .int x2, .int x3] S0 (qe_u r) := by
  refine cn_of (own := RX6) (emb := qe_u) (lv := [(0, .ref (G.2.2.1 q)), (1, .int x1), (2, .int x2), (3, .int x3)]) rfl rfl (Nat.le_of_ble_eq_true rfl) rfl (fun X => ?_)
  unfold fX6_addTake
  refine qr_aload_n (n := 1) 0 (dkX6_addTake (i := 0) rfl) rfl rfl ?_
  refine qr_geta (n := 4) q 5 (q + 2) (dkX6_addTake (i := 1) rfl) rfl hq.1 rfl gnX6 (Nat.le_of_ble_eq_true rfl) kfX6_15 rfl ?_
  refine qr_iload_n (n := 5) 1 (dkX6_addTake (i := 2) rfl) rfl rfl ?_
  refine qr_dup2 (n := 6) (dkX6_addTake (i := 3) rfl) rfl rfl rfl ?_
  refine qr_iald (n := 7) (q + 2) 6 (dkX6_addTake (i := 4) rfl) rfl hq.2.2.1 ?_
  refine qr_iload_n (n := 8) 2 (dkX6_addTake (i := 5) rfl) rfl rfl ?_
  refine qr_ior (n := 9) (dkX6_addTake (i := 6) rfl) rfl ?_
  refine qr_iast (n := 10) (q + 2) 6 (dkX6_addTake (i := 7) rfl) rfl hq.2.2.1 (fun S_1 => ?_)
  refine qr_aload_n (n := 11) 0 (dkX6_addTake (i := 8) rfl) rfl rfl ?_
  refine qr_geta (n := 14) q 6 (q + 3) (dkX6_addTake (i := 9) rfl) rfl hq.1 rfl gnX6 (Nat.le_of_ble_eq_true rfl) kfX6_18 rfl ?_
  refine qr_iload_n (n := 15) 1 (dkX6_addTake (i := 10) rfl) rfl rfl ?_
  refine qr_dup2 (n := 16) (dkX6_addTake (i := 11) rfl) rfl rfl rfl ?_
  refine qr_iald (n := 17) (q + 3) 6 (dkX6_addTake (i := 12) rfl) rfl hq.2.2.2.1 ?_
  refine qr_iconst (n := 18) 1 (dkX6_addTake (i := 13) rfl) rfl (by decide) ?_
  refine qr_iadd (n := 19) (dkX6_addTake (i := 14) rfl) rfl ?_
  refine qr_iast (n := 20) (q + 3) 6 (dkX6_addTake (i := 15) rfl) rfl hq.2.2.2.1 (fun S_2 => ?_)
  refine qr_iload_n (n := 21) 2 (dkX6_addTake (i := 16) rfl) rfl rfl ?_
  refine qr_iload_n (n := 22) 3 (dkX6_addTake (i := 17) rfl) rfl rfl ?_
  refine qr_icmp_ne (t := 35) (n := 25) (dkX6_addTake (i := 18) rfl) (by decide) rfl ?_ ?_
  · exact qr_vret (dkX6_addTake (i := 27) rfl) rfl rfl
  · refine qr_aload_n (n := 26) 0 (dkX6_addTake (i := 19) rfl) rfl rfl ?_
    refine qr_geta (n := 29) q 7 (q + 4) (dkX6_addTake (i := 20) rfl) rfl hq.1 rfl gnX6 (Nat.le_of_ble_eq_true rfl) kfX6_21 rfl ?_
    refine qr_iload_n (n := 30) 1 (dkX6_addTake (i := 21) rfl) rfl rfl ?_
    refine qr_dup2 (n := 31) (dkX6_addTake (i := 22) rfl) rfl rfl rfl ?_
    refine qr_iald (n := 32) (q + 4) 6 (dkX6_addTake (i := 23) rfl) rfl hq.2.2.2.2 ?_
    refine qr_iconst (n := 33) 1 (dkX6_addTake (i := 24) rfl) rfl (by decide) ?_
    refine qr_iadd (n := 34) (dkX6_addTake (i := 25) rfl) rfl ?_
    refine qr_iast (n := 35) (q + 4) 6 (dkX6_addTake (i := 26) rfl) rfl hq.2.2.2.2 (fun S_3 => ?_)
    exact qr_vret (dkX6_addTake (i := 27) rfl) rfl rfl
def tbX6_allTakes : List (Nat × Instr × Nat) := [(0, .iconst 0, 1), (1, .istore_n 1, 1), (2, .iconst 0, 1), (3, .istore_n 2, 1), (4, .iload_n 2, 1), (5, .bipush 6, 2), (7, .if_icmp .ge 18, 3), (10, .iload_n 1, 1), (11, .aload_n 0, 1), (12, .getfield 18, 3), (15, .iload_n 2, 1), (16, .iaload, 1), (17, .iadd, 1), (18, .istore_n 1, 1), (19, .iinc 2 1, 3), (22, .goto (-18), 3), (25, .iload_n 1, 1), (26, .ireturn, 1)]
set_option maxRecDepth 20000 in
theorem daX6_allTakes : ∀ x ∈ tbX6_allTakes, decode cX6_allTakes x.1 = .ok x.2 := by decide +kernel
theorem dkX6_allTakes {i pc n : Nat} {ins : Instr} (h : tbX6_allTakes[i]? = some (pc, ins, n)) : decode cX6_allTakes pc = .ok (ins, n) := daX6_allTakes (pc, ins, n) (List.mem_of_getElem? h)
def fX6_allTakes (S0 : qv_St) (q : Nat) : Option Int32 :=
  qv_lp2 qv_N (fun self_1 (x1_1 : Int32) (x2_1 : Int32) =>
    if 6 ≤ x2_1 then
      some x1_1
    else
      qv_ck x2_1 6 <|
      qv_b ((x1_1 + (S0.1 (q + 3) (Int32.toNatClampNeg x2_1))) : Int32) fun x1_2 =>
      self_1 x1_2 (x2_1 + 1)) 0 0
set_option maxRecDepth 20000 in
set_option maxHeartbeats 4000000 in
theorem wX6_allTakes (G : qv_GT) (S0 : qv_St) (q : Nat) (hq : isS q) : ∀ r, fX6_allTakes S0 q = some r → Cn G Lk yX6_allTakes cX6_allTakes 3 (some .int) 1 [.ref (G.2.2.1 q)] S0 ((qe_i S0) r) := by
  refine cn_of (own := RX6) (emb := (qe_i S0)) (lv := [(0, .ref (G.2.2.1 q))]) rfl rfl (Nat.le_of_ble_eq_true rfl) rfl (fun X => ?_)
  unfold fX6_allTakes
  refine qr_iconst (n := 1) 0 (dkX6_allTakes (i := 0) rfl) rfl (by decide) ?_
  refine qr_istore_n (n := 2) (lv2 := [(0, .ref (G.2.2.1 q)), (1, .int 0)]) [1, 0] (dkX6_allTakes (i := 1) rfl) rfl rfl (by decide) rfl ?_
  refine qr_iconst (n := 3) 0 (dkX6_allTakes (i := 2) rfl) rfl (by decide) ?_
  refine qr_istore_n (n := 4) (lv2 := [(0, .ref (G.2.2.1 q)), (1, .int 0), (2, .int 0)]) [1, 2, 0] (dkX6_allTakes (i := 3) rfl) rfl rfl (by decide) rfl ?_
  refine qr_lp2 (fun (x1_1 : Int32) (x2_1 : Int32) => [(0, .ref (G.2.2.1 q)), (1, .int x1_1), (2, .int x2_1)]) (fun (x1_1 : Int32) (x2_1 : Int32) => S0) (fun self_1 hself_1 x1_1 x2_1 => ?_) qv_N 0 0
  refine qr_iload_n (n := 5) 2 (dkX6_allTakes (i := 4) rfl) rfl rfl ?_
  refine qr_bipush (n := 7) 6 (dkX6_allTakes (i := 5) rfl) rfl (by decide) ?_
  refine qr_icmp_ge (t := 25) (n := 10) (dkX6_allTakes (i := 6) rfl) (by decide) rfl ?_ ?_
  · refine qr_iload_n (n := 26) 1 (dkX6_allTakes (i := 16) rfl) rfl rfl ?_
    exact qr_iret (dkX6_allTakes (i := 17) rfl) rfl rfl
  · refine qr_iload_n (n := 11) 1 (dkX6_allTakes (i := 7) rfl) rfl rfl ?_
    refine qr_aload_n (n := 12) 0 (dkX6_allTakes (i := 8) rfl) rfl rfl ?_
    refine qr_geta (n := 15) q 6 (q + 3) (dkX6_allTakes (i := 9) rfl) rfl hq.1 rfl gnX6 (Nat.le_of_ble_eq_true rfl) kfX6_18 rfl ?_
    refine qr_iload_n (n := 16) 2 (dkX6_allTakes (i := 10) rfl) rfl rfl ?_
    refine qr_iald (n := 17) (q + 3) 6 (dkX6_allTakes (i := 11) rfl) rfl hq.2.2.2.1 ?_
    refine qr_iadd (n := 18) (dkX6_allTakes (i := 12) rfl) rfl ?_
    refine qr_b (α := Int32) (x1_1 + (S0.1 (q + 3) (Int32.toNatClampNeg x2_1))) (lvf := fun _ => [(0, .ref (G.2.2.1 q)), (1, .int x1_1), (2, .int x2_1)]) (stf := fun z => .int z :: []) (Sf := fun _ => S0) (fun x1_2 => ?_)
    refine qr_istore_n (n := 19) (lv2 := [(0, .ref (G.2.2.1 q)), (1, .int x1_2), (2, .int x2_1)]) [1, 0, 2] (dkX6_allTakes (i := 13) rfl) rfl rfl (by decide) rfl ?_
    refine qr_iinc (n := 22) (v := 1) (lv2 := [(0, .ref (G.2.2.1 q)), (1, .int x1_2), (2, .int (x2_1 + 1))]) 2 [1, 2, 0] (dkX6_allTakes (i := 14) rfl) rfl rfl (by decide) (by decide) rfl ?_
    refine qr_goto (n := 4) (dkX6_allTakes (i := 15) rfl) (by decide) ?_
    exact hself_1 x1_2 (x2_1 + 1)
def tbX7_drop : List (Nat × Instr × Nat) := [(0, .aload_n 0, 1), (1, .iconst (-1), 1), (2, .putfield 20, 3), (5, .return_, 1)]
set_option maxRecDepth 20000 in
theorem daX7_drop : ∀ x ∈ tbX7_drop, decode cX7_drop x.1 = .ok x.2 := by decide +kernel
theorem dkX7_drop {i pc n : Nat} {ins : Instr} (h : tbX7_drop[i]? = some (pc, ins, n)) : decode cX7_drop pc = .ok (ins, n) := daX7_drop (pc, ins, n) (List.mem_of_getElem? h)
def fX7_drop (S0 : qv_St) : Option qv_St :=
  qv_b (qv_si S0 260 5 (-1)) fun S_1 =>
  some S_1
set_option maxRecDepth 20000 in
set_option maxHeartbeats 4000000 in
theorem wX7_drop (G : qv_GT) (S0 : qv_St) : ∀ r, fX7_drop S0 = some r → Cn G Lk yX7_drop cX7_drop 1 none 1 [.ref (G.2.2.1 260)] S0 (qe_u r) := by
  refine cn_of (own := RX7) (emb := qe_u) (lv := [(0, .ref (G.2.2.1 260))]) rfl rfl (Nat.le_of_ble_eq_true rfl) rfl (fun X => ?_)
  unfold fX7_drop
  refine qr_aload_n (n := 1) 0 (dkX7_drop (i := 0) rfl) rfl rfl ?_
  refine qr_iconst (n := 2) (-1) (dkX7_drop (i := 1) rfl) rfl (by decide) ?_
  refine qr_puti (n := 5) 260 5 (dkX7_drop (i := 2) rfl) rfl lkO_260 rfl gnX7 (Nat.le_of_ble_eq_true rfl) kfX7_20 rfl tyX7_ok nmX7 rfl rfl (fun S_1 => ?_)
  exact qr_vret (dkX7_drop (i := 3) rfl) rfl rfl
def tbX7_face : List (Nat × Instr × Nat) := [(0, .iload_n 1, 1), (1, .aload_n 0, 1), (2, .getfield 20, 3), (5, .if_icmp .eq 24, 3), (8, .aload_n 0, 1), (9, .iload_n 1, 1), (10, .putfield 20, 3), (13, .aload_n 0, 1), (14, .getfield 13, 3), (17, .iconst 0, 1), (18, .invokestatic 36, 3), (21, .aload_n 0, 1), (22, .getfield 17, 3), (25, .iconst 0, 1), (26, .invokestatic 36, 3), (29, .return_, 1)]
set_option maxRecDepth 20000 in
theorem daX7_face : ∀ x ∈ tbX7_face, decode cX7_face x.1 = .ok x.2 := by decide +kernel
theorem dkX7_face {i pc n : Nat} {ins : Instr} (h : tbX7_face[i]? = some (pc, ins, n)) : decode cX7_face pc = .ok (ins, n) := daX7_face (pc, ins, n) (List.mem_of_getElem? h)
def fX7_face (S0 : qv_St) (x1 : Int32) : Option qv_St :=
  if x1 = (S0.1 260 5) then
    some S0
  else
    qv_b (qv_si S0 260 5 x1) fun S_1 =>
    (fJ7_fill_53178 S_1 261 1545 0).bind fun S_2 =>
    (fJ7_fill_53178 S_2 262 1545 0).bind fun S_3 =>
    some S_3
set_option maxRecDepth 20000 in
set_option maxHeartbeats 4000000 in
theorem wX7_face (G : qv_GT) (S0 : qv_St) (x1 : Int32) : ∀ r, fX7_face S0 x1 = some r → Cn G Lk yX7_face cX7_face 2 none 2 [.ref (G.2.2.1 260), .int x1] S0 (qe_u r) := by
  refine cn_of (own := RX7) (emb := qe_u) (lv := [(0, .ref (G.2.2.1 260)), (1, .int x1)]) rfl rfl (Nat.le_of_ble_eq_true rfl) rfl (fun X => ?_)
  unfold fX7_face
  refine qr_iload_n (n := 1) 1 (dkX7_face (i := 0) rfl) rfl rfl ?_
  refine qr_aload_n (n := 2) 0 (dkX7_face (i := 1) rfl) rfl rfl ?_
  refine qr_geti (n := 5) 260 5 (dkX7_face (i := 2) rfl) rfl lkO_260 rfl gnX7 (Nat.le_of_ble_eq_true rfl) kfX7_20 rfl ?_
  refine qr_icmp_eq (t := 29) (n := 8) (dkX7_face (i := 3) rfl) (by decide) rfl ?_ ?_
  · exact qr_vret (dkX7_face (i := 15) rfl) rfl rfl
  · refine qr_aload_n (n := 9) 0 (dkX7_face (i := 4) rfl) rfl rfl ?_
    refine qr_iload_n (n := 10) 1 (dkX7_face (i := 5) rfl) rfl rfl ?_
    refine qr_puti (n := 13) 260 5 (dkX7_face (i := 6) rfl) rfl lkO_260 rfl gnX7 (Nat.le_of_ble_eq_true rfl) kfX7_20 rfl tyX7_ok nmX7 rfl rfl (fun S_1 => ?_)
    refine qr_aload_n (n := 14) 0 (dkX7_face (i := 7) rfl) rfl rfl ?_
    refine qr_geta (n := 17) 260 3 261 (dkX7_face (i := 8) rfl) rfl lkO_260 rfl gnX7 (Nat.le_of_ble_eq_true rfl) kfX7_13 rfl ?_
    refine qr_iconst (n := 18) 0 (dkX7_face (i := 9) rfl) rfl (by decide) ?_
    refine qr_csu (n := 21) [.ref (G.2.2.1 261), .int 0] (dkX7_face (i := 10) rfl) rfl kvX7_36 rfl rfl (Nat.le_of_ble_eq_true rfl) rfl rfl (wJ7_fill_53178 G S_1 261 1545 0 lkA_261) (fun S_2 => ?_)
    refine qr_aload_n (n := 22) 0 (dkX7_face (i := 11) rfl) rfl rfl ?_
    refine qr_geta (n := 25) 260 4 262 (dkX7_face (i := 12) rfl) rfl lkO_260 rfl gnX7 (Nat.le_of_ble_eq_true rfl) kfX7_17 rfl ?_
    refine qr_iconst (n := 26) 0 (dkX7_face (i := 13) rfl) rfl (by decide) ?_
    refine qr_csu (n := 29) [.ref (G.2.2.1 262), .int 0] (dkX7_face (i := 14) rfl) rfl kvX7_36 rfl rfl (Nat.le_of_ble_eq_true rfl) rfl rfl (wJ7_fill_53178 G S_2 262 1545 0 lkA_262) (fun S_3 => ?_)
    exact qr_vret (dkX7_face (i := 15) rfl) rfl rfl
def tbX7_noiseAt : List (Nat × Instr × Nat) := [(0, .iconst (-1), 1), (1, .aload_n 0, 1), (2, .iload_n 1, 1), (3, .invokevirtual 90, 3), (6, .invokestatic 93, 3), (9, .ireturn, 1)]
set_option maxRecDepth 20000 in
theorem daX7_noiseAt : ∀ x ∈ tbX7_noiseAt, decode cX7_noiseAt x.1 = .ok x.2 := by decide +kernel
theorem dkX7_noiseAt {i pc n : Nat} {ins : Instr} (h : tbX7_noiseAt[i]? = some (pc, ins, n)) : decode cX7_noiseAt pc = .ok (ins, n) := daX7_noiseAt (pc, ins, n) (List.mem_of_getElem? h)
def fX7_noiseAt (S0 : qv_St) (x1 : Int32) : Option (qv_St × Int32) :=
  qv_cm (fX7_soundAt S0 x1) fun S_1 r_1 =>
  (fX7_noiseWithout (-1) r_1).bind fun r_2 =>
  some (S_1, r_2)
set_option maxRecDepth 20000 in
set_option maxHeartbeats 4000000 in
theorem wX7_noiseAt (G : qv_GT) (S0 : qv_St) (x1 : Int32) : ∀ r, fX7_noiseAt S0 x1 = some r → Cn G Lk yX7_noiseAt cX7_noiseAt 2 (some .int) 5 [.ref (G.2.2.1 260), .int x1] S0 (qe_m r) := by
  refine cn_of (own := RX7) (emb := qe_m) (lv := [(0, .ref (G.2.2.1 260)), (1, .int x1)]) rfl rfl (Nat.le_of_ble_eq_true rfl) rfl (fun X => ?_)
  unfold fX7_noiseAt
  refine qr_iconst (n := 1) (-1) (dkX7_noiseAt (i := 0) rfl) rfl (by decide) ?_
  refine qr_aload_n (n := 2) 0 (dkX7_noiseAt (i := 1) rfl) rfl rfl ?_
  refine qr_iload_n (n := 3) 1 (dkX7_noiseAt (i := 2) rfl) rfl rfl ?_
  refine qr_cvm (n := 6) 260 [.int x1] (dkX7_noiseAt (i := 3) rfl) rfl kvX7_90 rfl rfl (Nat.le_of_ble_eq_true rfl) rfl rfl lkO_260 rfl (wX7_soundAt G S0 x1) (fun S_1 r_1 => ?_)
  refine qr_csi (n := 9) [.int (-1), .int r_1] (dkX7_noiseAt (i := 4) rfl) rfl kvX7_93 rfl rfl (Nat.le_of_ble_eq_true rfl) rfl rfl (wX7_noiseWithout G S_1 (-1) r_1) (fun r_2 => ?_)
  exact qr_iret (dkX7_noiseAt (i := 5) rfl) rfl rfl
def tbX7_greatest : List (Nat × Instr × Nat) := [(0, .iconst 0, 1), (1, .istore 4, 2), (3, .iconst 0, 1), (4, .istore 5, 2), (6, .iload 5, 2), (8, .iload_n 2, 1), (9, .if_icmp .ge 30, 3), (12, .iload 4, 2), (14, .iload_n 3, 1), (15, .if_icmp .ge 24, 3), (18, .iload 4, 2), (20, .aload_n 0, 1), (21, .iload_n 1, 1), (22, .iload 5, 2), (24, .iadd, 1), (25, .invokevirtual 96, 3), (28, .invokestatic 65, 3), (31, .istore 4, 2), (33, .iinc 5 1, 3), (36, .goto (-30), 3), (39, .iload 4, 2), (41, .ireturn, 1)]
set_option maxRecDepth 20000 in
theorem daX7_greatest : ∀ x ∈ tbX7_greatest, decode cX7_greatest x.1 = .ok x.2 := by decide +kernel
theorem dkX7_greatest {i pc n : Nat} {ins : Instr} (h : tbX7_greatest[i]? = some (pc, ins, n)) : decode cX7_greatest pc = .ok (ins, n) := daX7_greatest (pc, ins, n) (List.mem_of_getElem? h)
def fX7_greatest (S0 : qv_St) (x1 : Int32) (x2 : Int32) (x3 : Int32) : Option (qv_St × Int32) :=
  qv_lp3 qv_N (fun self_1 (S_1 : qv_St) (x4_1 : Int32) (x5_1 : Int32) =>
    if x2 ≤ x5_1 then
      some (S_1, x4_1)
    else
      if x3 ≤ x4_1 then
        some (S_1, x4_1)
      else
        qv_cm (fX7_noiseAt S_1 (x1 + x5_1)) fun S_2 r_1 =>
        qv_b ((qv_mx x4_1 r_1) : Int32) fun x4_2 =>
        self_1 S_2 x4_2 (x5_1 + 1)) S0 0 0
set_option maxRecDepth 20000 in
set_option maxHeartbeats 4000000 in
theorem wX7_greatest (G : qv_GT) (S0 : qv_St) (x1 : Int32) (x2 : Int32) (x3 : Int32) : ∀ r, fX7_greatest S0 x1 x2 x3 = some r → Cn G Lk yX7_greatest cX7_greatest 6 (some .int) 6 [.ref (G.2.2.1 260), .int x1, .int x2, .int x3] S0 (qe_m r) := by
  refine cn_of (own := RX7) (emb := qe_m) (lv := [(0, .ref (G.2.2.1 260)), (1, .int x1), (2, .int x2), (3, .int x3)]) rfl rfl (Nat.le_of_ble_eq_true rfl) rfl (fun X => ?_)
  unfold fX7_greatest
  refine qr_iconst (n := 1) 0 (dkX7_greatest (i := 0) rfl) rfl (by decide) ?_
  refine qr_istore (n := 3) (lv2 := [(0, .ref (G.2.2.1 260)), (1, .int x1), (2, .int x2), (3, .int x3), (4, .int 0)]) [1, 2, 3, 4, 0] (dkX7_greatest (i := 1) rfl) rfl (by decide) rfl ?_
  refine qr_iconst (n := 4) 0 (dkX7_greatest (i := 2) rfl) rfl (by decide) ?_
  refine qr_istore (n := 6) (lv2 := [(0, .ref (G.2.2.1 260)), (1, .int x1), (2, .int x2), (3, .int x3), (4, .int 0), (5, .int 0)]) [1, 2, 3, 4, 5, 0] (dkX7_greatest (i := 3) rfl) rfl (by decide) rfl ?_
  refine qr_lp3 (fun (S_1 : qv_St) (x4_1 : Int32) (x5_1 : Int32) => [(0, .ref (G.2.2.1 260)), (1, .int x1), (2, .int x2), (3, .int x3), (4, .int x4_1), (5, .int x5_1)]) (fun (S_1 : qv_St) (x4_1 : Int32) (x5_1 : Int32) => S_1) (fun self_1 hself_1 S_1 x4_1 x5_1 => ?_) qv_N S0 0 0
  refine qr_iload (n := 8) 5 (dkX7_greatest (i := 4) rfl) rfl rfl ?_
  refine qr_iload_n (n := 9) 2 (dkX7_greatest (i := 5) rfl) rfl rfl ?_
  refine qr_icmp_ge (t := 39) (n := 12) (dkX7_greatest (i := 6) rfl) (by decide) rfl ?_ ?_
  · refine qr_iload (n := 41) 4 (dkX7_greatest (i := 20) rfl) rfl rfl ?_
    exact qr_iret (dkX7_greatest (i := 21) rfl) rfl rfl
  · refine qr_iload (n := 14) 4 (dkX7_greatest (i := 7) rfl) rfl rfl ?_
    refine qr_iload_n (n := 15) 3 (dkX7_greatest (i := 8) rfl) rfl rfl ?_
    refine qr_icmp_ge (t := 39) (n := 18) (dkX7_greatest (i := 9) rfl) (by decide) rfl ?_ ?_
    · refine qr_iload (n := 41) 4 (dkX7_greatest (i := 20) rfl) rfl rfl ?_
      exact qr_iret (dkX7_greatest (i := 21) rfl) rfl rfl
    · refine qr_iload (n := 20) 4 (dkX7_greatest (i := 10) rfl) rfl rfl ?_
      refine qr_aload_n (n := 21) 0 (dkX7_greatest (i := 11) rfl) rfl rfl ?_
      refine qr_iload_n (n := 22) 1 (dkX7_greatest (i := 12) rfl) rfl rfl ?_
      refine qr_iload (n := 24) 5 (dkX7_greatest (i := 13) rfl) rfl rfl ?_
      refine qr_iadd (n := 25) (dkX7_greatest (i := 14) rfl) rfl ?_
      refine qr_cvm (n := 28) 260 [.int (x1 + x5_1)] (dkX7_greatest (i := 15) rfl) rfl kvX7_96 rfl rfl (Nat.le_of_ble_eq_true rfl) rfl rfl lkO_260 rfl (wX7_noiseAt G S_1 (x1 + x5_1)) (fun S_2 r_1 => ?_)
      refine qr_max (n := 31) (dkX7_greatest (i := 16) rfl) rfl kmX7_65 kmhmax1 kmh2 kmhmax3 rfl (Nat.le_of_ble_eq_true rfl) ?_
      refine qr_b (α := Int32) (qv_mx x4_1 r_1) (lvf := fun _ => [(0, .ref (G.2.2.1 260)), (1, .int x1), (2, .int x2), (3, .int x3), (4, .int x4_1), (5, .int x5_1)]) (stf := fun z => .int z :: []) (Sf := fun _ => S_2) (fun x4_2 => ?_)
      refine qr_istore (n := 33) (lv2 := [(0, .ref (G.2.2.1 260)), (1, .int x1), (2, .int x2), (3, .int x3), (4, .int x4_2), (5, .int x5_1)]) [1, 2, 3, 4, 0, 5] (dkX7_greatest (i := 17) rfl) rfl (by decide) rfl ?_
      refine qr_iinc (n := 36) (v := 1) (lv2 := [(0, .ref (G.2.2.1 260)), (1, .int x1), (2, .int x2), (3, .int x3), (4, .int x4_2), (5, .int (x5_1 + 1))]) 5 [1, 2, 3, 4, 5, 0] (dkX7_greatest (i := 18) rfl) rfl rfl (by decide) (by decide) rfl ?_
      refine qr_goto (n := 6) (dkX7_greatest (i := 19) rfl) (by decide) ?_
      exact hself_1 S_2 x4_2 (x5_1 + 1)
def tbX7_heardOf : List (Nat × Instr × Nat) := [(0, .aload_n 0, 1), (1, .getfield 28, 3), (4, .getfield 42, 3), (7, .iload_n 3, 1), (8, .iadd, 1), (9, .istore 4, 2), (11, .aload_n 0, 1), (12, .getfield 32, 3), (15, .iload_n 1, 1), (16, .iload_n 2, 1), (17, .iload 4, 2), (19, .aload_n 0, 1), (20, .getfield 32, 3), (23, .iload_n 1, 1), (24, .iload 4, 2), (26, .aload_n 0, 1), (27, .getfield 28, 3), (30, .getfield 52, 3), (33, .iload_n 1, 1), (34, .iaload, 1), (35, .invokevirtual 55, 3), (38, .invokevirtual 61, 3), (41, .ireturn, 1)]
set_option maxRecDepth 20000 in
theorem daX7_heardOf : ∀ x ∈ tbX7_heardOf, decode cX7_heardOf x.1 = .ok x.2 := by decide +kernel
theorem dkX7_heardOf {i pc n : Nat} {ins : Instr} (h : tbX7_heardOf[i]? = some (pc, ins, n)) : decode cX7_heardOf pc = .ok (ins, n) := daX7_heardOf (pc, ins, n) (List.mem_of_getElem? h)
def fX7_heardOf (S0 : qv_St) (x1 : Int32) (x2 : Int32) (x3 : Int32) : Option (qv_St × Int32) :=
  qv_b (((S0.1 31 0) + x3) : Int32) fun x4_1 =>
  qv_ck x1 8 <|
  qv_cm (fX0_ageOf S0 x1 x4_1 (S0.1 32 (Int32.toNatClampNeg x1))) fun S_1 r_1 =>
  qv_cm (fX0_heardOf S_1 x1 x2 x4_1 r_1) fun S_2 r_2 =>
  some (S_2, r_2)
set_option maxRecDepth 20000 in
set_option maxHeartbeats 4000000 in
theorem wX7_heardOf (G : qv_GT) (S0 : qv_St) (x1 : Int32) (x2 : Int32) (x3 : Int32) : ∀ r, fX7_heardOf S0 x1 x2 x3 = some r → Cn G Lk yX7_heardOf cX7_heardOf 5 (some .int) 4 [.ref (G.2.2.1 260), .int x1, .int x2, .int x3] S0 (qe_m r) := by
  refine cn_of (own := RX7) (emb := qe_m) (lv := [(0, .ref (G.2.2.1 260)), (1, .int x1), (2, .int x2), (3, .int x3)]) rfl rfl (Nat.le_of_ble_eq_true rfl) rfl (fun X => ?_)
  unfold fX7_heardOf
  refine qr_aload_n (n := 1) 0 (dkX7_heardOf (i := 0) rfl) rfl rfl ?_
  refine qr_geta (n := 4) 260 1 31 (dkX7_heardOf (i := 1) rfl) rfl lkO_260 rfl gnX7 (Nat.le_of_ble_eq_true rfl) kfX7_28 rfl ?_
  refine qr_geti (n := 7) 31 0 (dkX7_heardOf (i := 2) rfl) rfl lkO_31 rfl gnX6 (Nat.le_of_ble_eq_true rfl) kfX7_42 rfl ?_
  refine qr_iload_n (n := 8) 3 (dkX7_heardOf (i := 3) rfl) rfl rfl ?_
  refine qr_iadd (n := 9) (dkX7_heardOf (i := 4) rfl) rfl ?_
  refine qr_b (α := Int32) ((S0.1 31 0) + x3) (lvf := fun _ => [(0, .ref (G.2.2.1 260)), (1, .int x1), (2, .int x2), (3, .int x3)]) (stf := fun z => .int z :: []) (Sf := fun _ => S0) (fun x4_1 => ?_)
  refine qr_istore (n := 11) (lv2 := [(0, .ref (G.2.2.1 260)), (1, .int x1), (2, .int x2), (3, .int x3), (4, .int x4_1)]) [1, 2, 3, 4, 0] (dkX7_heardOf (i := 5) rfl) rfl (by decide) rfl ?_
  refine qr_aload_n (n := 12) 0 (dkX7_heardOf (i := 6) rfl) rfl rfl ?_
  refine qr_geta (n := 15) 260 2 254 (dkX7_heardOf (i := 7) rfl) rfl lkO_260 rfl gnX7 (Nat.le_of_ble_eq_true rfl) kfX7_32 rfl ?_
  refine qr_iload_n (n := 16) 1 (dkX7_heardOf (i := 8) rfl) rfl rfl ?_
  refine qr_iload_n (n := 17) 2 (dkX7_heardOf (i := 9) rfl) rfl rfl ?_
  refine qr_iload (n := 19) 4 (dkX7_heardOf (i := 10) rfl) rfl rfl ?_
  refine qr_aload_n (n := 20) 0 (dkX7_heardOf (i := 11) rfl) rfl rfl ?_
  refine qr_geta (n := 23) 260 2 254 (dkX7_heardOf (i := 12) rfl) rfl lkO_260 rfl gnX7 (Nat.le_of_ble_eq_true rfl) kfX7_32 rfl ?_
  refine qr_iload_n (n := 24) 1 (dkX7_heardOf (i := 13) rfl) rfl rfl ?_
  refine qr_iload (n := 26) 4 (dkX7_heardOf (i := 14) rfl) rfl rfl ?_
  refine qr_aload_n (n := 27) 0 (dkX7_heardOf (i := 15) rfl) rfl rfl ?_
  refine qr_geta (n := 30) 260 1 31 (dkX7_heardOf (i := 16) rfl) rfl lkO_260 rfl gnX7 (Nat.le_of_ble_eq_true rfl) kfX7_28 rfl ?_
  refine qr_geta (n := 33) 31 4 32 (dkX7_heardOf (i := 17) rfl) rfl lkO_31 rfl gnX6 (Nat.le_of_ble_eq_true rfl) kfX7_52 rfl ?_
  refine qr_iload_n (n := 34) 1 (dkX7_heardOf (i := 18) rfl) rfl rfl ?_
  refine qr_iald (n := 35) 32 8 (dkX7_heardOf (i := 19) rfl) rfl lkA_32 ?_
  refine qr_cvm (n := 38) 254 [.int x1, .int x4_1, .int (S0.1 32 (Int32.toNatClampNeg x1))] (dkX7_heardOf (i := 20) rfl) rfl kvX7_55 rfl rfl (Nat.le_of_ble_eq_true rfl) rfl rfl lkO_254 rfl (wX0_ageOf G S0 x1 x4_1 (S0.1 32 (Int32.toNatClampNeg x1))) (fun S_1 r_1 => ?_)
  refine qr_cvm (n := 41) 254 [.int x1, .int x2, .int x4_1, .int r_1] (dkX7_heardOf (i := 21) rfl) rfl kvX7_61 rfl rfl (Nat.le_of_ble_eq_true rfl) rfl rfl lkO_254 rfl (wX0_heardOf G S_1 x1 x2 x4_1 r_1) (fun S_2 r_2 => ?_)
  exact qr_iret (dkX7_heardOf (i := 22) rfl) rfl rfl
def tbX7_clearSeconds : List (Nat × Instr × Nat) := [(0, .iconst 0, 1), (1, .istore_n 3, 1), (2, .iconst 0, 1), (3, .istore 4, 2), (5, .iload 4, 2), (7, .aload_n 0, 1), (8, .getfield 24, 3), (11, .getfield 99, 3), (14, .iload_n 1, 1), (15, .iaload, 1), (16, .if_icmp .ge 51, 3), (19, .iload_n 2, 1), (20, .iload 4, 2), (22, .iadd, 1), (23, .istore 5, 2), (25, .aload_n 0, 1), (26, .iload 5, 2), (28, .invokevirtual 96, 3), (31, .aload_n 0, 1), (32, .getfield 32, 3), (35, .iload_n 1, 1), (36, .iload 4, 2), (38, .aload_n 0, 1), (39, .getfield 28, 3), (42, .getfield 42, 3), (45, .iload 5, 2), (47, .iadd, 1), (48, .invokevirtual 102, 3), (51, .if_icmp .gt 10, 3), (54, .iload_n 3, 1), (55, .iconst 1, 1), (56, .iload 4, 2), (58, .ishl, 1), (59, .ior, 1), (60, .istore_n 3, 1), (61, .iinc 4 1, 3), (64, .goto (-59), 3), (67, .iload_n 3, 1), (68, .ireturn, 1)]
set_option maxRecDepth 20000 in
theorem daX7_clearSeconds : ∀ x ∈ tbX7_clearSeconds, decode cX7_clearSeconds x.1 = .ok x.2 := by decide +kernel
theorem dkX7_clearSeconds {i pc n : Nat} {ins : Instr} (h : tbX7_clearSeconds[i]? = some (pc, ins, n)) : decode cX7_clearSeconds pc = .ok (ins, n) := daX7_clearSeconds (pc, ins, n) (List.mem_of_getElem? h)
def fX7_clearSeconds (S0 : qv_St) (x1 : Int32) (x2 : Int32) : Option (qv_St × Int32) :=
  qv_lp3 qv_N (fun self_1 (S_1 : qv_St) (x3_1 : Int32) (x4_1 : Int32) =>
    qv_ck x1 6 <|
    if (S_1.1 17 (Int32.toNatClampNeg x1)) ≤ x4_1 then
      some (S_1, x3_1)
    else
      qv_b ((x2 + x4_1) : Int32) fun x5_1 =>
      qv_cm (fX7_noiseAt S_1 x5_1) fun S_2 r_1 =>
      qv_cm (fX0_borne S_2 x1 x4_1 ((S_2.1 31 0) + x5_1)) fun S_3 r_2 =>
      qv_j (fun (x3_2 : Int32) =>
        self_1 S_3 x3_2 (x4_1 + 1)) fun K_1 =>
      if r_2 < r_1 then
        K_1 x3_1
      else
        qv_b ((x3_1 ||| (1 <<< (x4_1 &&& 31))) : Int32) fun x3_3 =>
        K_1 x3_3) S0 0 0
set_option maxRecDepth 20000 in
set_option maxHeartbeats 4000000 in
theorem wX7_clearSeconds (G : qv_GT) (S0 : qv_St) (x1 : Int32) (x2 : Int32) : ∀ r, fX7_clearSeconds S0 x1 x2 = some r → Cn G Lk yX7_clearSeconds cX7_clearSeconds 6 (some .int) 6 [.ref (G.2.2.1 260), .int x1, .int x2] S0 (qe_m r) := by
  refine cn_of (own := RX7) (emb := qe_m) (lv := [(0, .ref (G.2.2.1 260)), (1, .int x1), (2, .int x2)]) rfl rfl (Nat.le_of_ble_eq_true rfl) rfl (fun X => ?_)
  unfold fX7_clearSeconds
  refine qr_iconst (n := 1) 0 (dkX7_clearSeconds (i := 0) rfl) rfl (by decide) ?_
  refine qr_istore_n (n := 2) (lv2 := [(0, .ref (G.2.2.1 260)), (1, .int x1), (2, .int x2), (3, .int 0)]) [1, 2, 3, 0] (dkX7_clearSeconds (i := 1) rfl) rfl rfl (by decide) rfl ?_
  refine qr_iconst (n := 3) 0 (dkX7_clearSeconds (i := 2) rfl) rfl (by decide) ?_
  refine qr_istore (n := 5) (lv2 := [(0, .ref (G.2.2.1 260)), (1, .int x1), (2, .int x2), (3, .int 0), (4, .int 0)]) [1, 2, 3, 4, 0] (dkX7_clearSeconds (i := 3) rfl) rfl (by decide) rfl ?_
  refine qr_lp3 (fun (S_1 : qv_St) (x3_1 : Int32) (x4_1 : Int32) => [(0, .ref (G.2.2.1 260)), (1, .int x1), (2, .int x2), (3, .int x3_1), (4, .int x4_1)]) (fun (S_1 : qv_St) (x3_1 : Int32) (x4_1 : Int32) => S_1) (fun self_1 hself_1 S_1 x3_1 x4_1 => ?_) qv_N S0 0 0
  refine qr_iload (n := 7) 4 (dkX7_clearSeconds (i := 4) rfl) rfl rfl ?_
  refine qr_aload_n (n := 8) 0 (dkX7_clearSeconds (i := 5) rfl) rfl rfl ?_
  refine qr_geta (n := 11) 260 0 9 (dkX7_clearSeconds (i := 6) rfl) rfl lkO_260 rfl gnX7 (Nat.le_of_ble_eq_true rfl) kfX7_24 rfl ?_
  refine qr_geta (n := 14) 9 10 17 (dkX7_clearSeconds (i := 7) rfl) rfl lkO_9 rfl gnX5 (Nat.le_of_ble_eq_true rfl) kfX7_99 rfl ?_
  refine qr_iload_n (n := 15) 1 (dkX7_clearSeconds (i := 8) rfl) rfl rfl ?_
  refine qr_iald (n := 16) 17 6 (dkX7_clearSeconds (i := 9) rfl) rfl lkA_17 ?_
  refine qr_icmp_ge (t := 67) (n := 19) (dkX7_clearSeconds (i := 10) rfl) (by decide) rfl ?_ ?_
  · refine qr_iload_n (n := 68) 3 (dkX7_clearSeconds (i := 37) rfl) rfl rfl ?_
    exact qr_iret (dkX7_clearSeconds (i := 38) rfl) rfl rfl
  · refine qr_iload_n (n := 20) 2 (dkX7_clearSeconds (i := 11) rfl) rfl rfl ?_
    refine qr_iload (n := 22) 4 (dkX7_clearSeconds (i := 12) rfl) rfl rfl ?_
    refine qr_iadd (n := 23) (dkX7_clearSeconds (i := 13) rfl) rfl ?_
    refine qr_b (α := Int32) (x2 + x4_1) (lvf := fun _ => [(0, .ref (G.2.2.1 260)), (1, .int x1), (2, .int x2), (3, .int x3_1), (4, .int x4_1)]) (stf := fun z => .int z :: []) (Sf := fun _ => S_1) (fun x5_1 => ?_)
    refine qr_istore (n := 25) (lv2 := [(0, .ref (G.2.2.1 260)), (1, .int x1), (2, .int x2), (3, .int x3_1), (4, .int x4_1), (5, .int x5_1)]) [1, 2, 3, 4, 5, 0] (dkX7_clearSeconds (i := 14) rfl) rfl (by decide) rfl ?_
    refine qr_aload_n (n := 26) 0 (dkX7_clearSeconds (i := 15) rfl) rfl rfl ?_
    refine qr_iload (n := 28) 5 (dkX7_clearSeconds (i := 16) rfl) rfl rfl ?_
    refine qr_cvm (n := 31) 260 [.int x5_1] (dkX7_clearSeconds (i := 17) rfl) rfl kvX7_96 rfl rfl (Nat.le_of_ble_eq_true rfl) rfl rfl lkO_260 rfl (wX7_noiseAt G S_1 x5_1) (fun S_2 r_1 => ?_)
    refine qr_aload_n (n := 32) 0 (dkX7_clearSeconds (i := 18) rfl) rfl rfl ?_
    refine qr_geta (n := 35) 260 2 254 (dkX7_clearSeconds (i := 19) rfl) rfl lkO_260 rfl gnX7 (Nat.le_of_ble_eq_true rfl) kfX7_32 rfl ?_
    refine qr_iload_n (n := 36) 1 (dkX7_clearSeconds (i := 20) rfl) rfl rfl ?_
    refine qr_iload (n := 38) 4 (dkX7_clearSeconds (i := 21) rfl) rfl rfl ?_
    refine qr_aload_n (n := 39) 0 (dkX7_clearSeconds (i := 22) rfl) rfl rfl ?_
    refine qr_geta (n := 42) 260 1 31 (dkX7_clearSeconds (i := 23) rfl) rfl lkO_260 rfl gnX7 (Nat.le_of_ble_eq_true rfl) kfX7_28 rfl ?_
    refine qr_geti (n := 45) 31 0 (dkX7_clearSeconds (i := 24) rfl) rfl lkO_31 rfl gnX6 (Nat.le_of_ble_eq_true rfl) kfX7_42 rfl ?_
    refine qr_iload (n := 47) 5 (dkX7_clearSeconds (i := 25) rfl) rfl rfl ?_
    refine qr_iadd (n := 48) (dkX7_clearSeconds (i := 26) rfl) rfl ?_
    refine qr_cvm (n := 51) 254 [.int x1, .int x4_1, .int ((S_2.1 31 0) + x5_1)] (dkX7_clearSeconds (i := 27) rfl) rfl kvX7_102 rfl rfl (Nat.le_of_ble_eq_true rfl) rfl rfl lkO_254 rfl (wX0_borne G S_2 x1 x4_1 ((S_2.1 31 0) + x5_1)) (fun S_3 r_2 => ?_)
    refine qr_j (fun K_1 : Int32 → Option (qv_St × Int32) => ∀ (x3_2 : Int32), VV G Lk X RX7 cX7_clearSeconds 6 (some .int) 6 qe_m 61 [(0, .ref (G.2.2.1 260)), (1, .int x1), (2, .int x2), (3, .int x3_2), (4, .int x4_1)] [] S_3 (K_1 x3_2)) (fun x3_2 => ?_) (fun K_1 hK_1 => ?_)
    · refine qr_iinc (n := 64) (v := 1) (lv2 := [(0, .ref (G.2.2.1 260)), (1, .int x1), (2, .int x2), (3, .int x3_2), (4, .int (x4_1 + 1))]) 4 [1, 2, 3, 4, 0] (dkX7_clearSeconds (i := 35) rfl) rfl rfl (by decide) (by decide) rfl ?_
      refine qr_goto (n := 5) (dkX7_clearSeconds (i := 36) rfl) (by decide) ?_
      exact hself_1 S_3 x3_2 (x4_1 + 1)
    · refine qr_icmp_gt (t := 61) (n := 54) (dkX7_clearSeconds (i := 28) rfl) (by decide) rfl ?_ ?_
      · refine qr_sub [0, 1, 2, 3, 4] rfl ?_
        exact hK_1 x3_1
      · refine qr_iload_n (n := 55) 3 (dkX7_clearSeconds (i := 29) rfl) rfl rfl ?_
        refine qr_iconst (n := 56) 1 (dkX7_clearSeconds (i := 30) rfl) rfl (by decide) ?_
        refine qr_iload (n := 58) 4 (dkX7_clearSeconds (i := 31) rfl) rfl rfl ?_
        refine qr_ishl (n := 59) (dkX7_clearSeconds (i := 32) rfl) rfl ?_
        refine qr_ior (n := 60) (dkX7_clearSeconds (i := 33) rfl) rfl ?_
        refine qr_b (α := Int32) (x3_1 ||| (1 <<< (x4_1 &&& 31))) (lvf := fun _ => [(0, .ref (G.2.2.1 260)), (1, .int x1), (2, .int x2), (3, .int x3_1), (4, .int x4_1), (5, .int x5_1)]) (stf := fun z => .int z :: []) (Sf := fun _ => S_3) (fun x3_3 => ?_)
        refine qr_istore_n (n := 61) (lv2 := [(0, .ref (G.2.2.1 260)), (1, .int x1), (2, .int x2), (3, .int x3_3), (4, .int x4_1), (5, .int x5_1)]) [1, 2, 3, 0, 4, 5] (dkX7_clearSeconds (i := 34) rfl) rfl rfl (by decide) rfl ?_
        refine qr_sub [0, 1, 2, 3, 4] rfl ?_
        exact hK_1 x3_3
def tbX7_firstGoodWithout : List (Nat × Instr × Nat) := [(0, .iconst 0, 1), (1, .istore 4, 2), (3, .iload 4, 2), (5, .iload_n 3, 1), (6, .if_icmp .gt 23, 3), (9, .aload_n 0, 1), (10, .iload_n 2, 1), (11, .iload 4, 2), (13, .iload_n 1, 1), (14, .invokevirtual 105, 3), (17, .ifCond .ge 6, 3), (20, .iload 4, 2), (22, .ireturn, 1), (23, .iinc 4 1, 3), (26, .goto (-23), 3), (29, .bipush (-2), 2), (31, .ireturn, 1)]
set_option maxRecDepth 20000 in
theorem daX7_firstGoodWithout : ∀ x ∈ tbX7_firstGoodWithout, decode cX7_firstGoodWithout x.1 = .ok x.2 := by decide +kernel
theorem dkX7_firstGoodWithout {i pc n : Nat} {ins : Instr} (h : tbX7_firstGoodWithout[i]? = some (pc, ins, n)) : decode cX7_firstGoodWithout pc = .ok (ins, n) := daX7_firstGoodWithout (pc, ins, n) (List.mem_of_getElem? h)
def fX7_firstGoodWithout (S0 : qv_St) (x1 : Int32) (x2 : Int32) (x3 : Int32) : Option (qv_St × Int32) :=
  qv_lp2 qv_N (fun self_1 (S_1 : qv_St) (x4_1 : Int32) =>
    if x3 < x4_1 then
      some (S_1, (-2))
    else
      qv_cm (fX7_firstUnclear S_1 x2 x4_1 x1) fun S_2 r_1 =>
      if 0 ≤ r_1 then
        self_1 S_2 (x4_1 + 1)
      else
        some (S_2, x4_1)) S0 0
set_option maxRecDepth 20000 in
set_option maxHeartbeats 4000000 in
theorem wX7_firstGoodWithout (G : qv_GT) (S0 : qv_St) (x1 : Int32) (x2 : Int32) (x3 : Int32) : ∀ r, fX7_firstGoodWithout S0 x1 x2 x3 = some r → Cn G Lk yX7_firstGoodWithout cX7_firstGoodWithout 5 (some .int) 6 [.ref (G.2.2.1 260), .int x1, .int x2, .int x3] S0 (qe_m r) := by
  refine cn_of (own := RX7) (emb := qe_m) (lv := [(0, .ref (G.2.2.1 260)), (1, .int x1), (2, .int x2), (3, .int x3)]) rfl rfl (Nat.le_of_ble_eq_true rfl) rfl (fun X => ?_)
  unfold fX7_firstGoodWithout
  refine qr_iconst (n := 1) 0 (dkX7_firstGoodWithout (i := 0) rfl) rfl (by decide) ?_
  refine qr_istore (n := 3) (lv2 := [(0, .ref (G.2.2.1 260)), (1, .int x1), (2, .int x2), (3, .int x3), (4, .int 0)]) [1, 2, 3, 4, 0] (dkX7_firstGoodWithout (i := 1) rfl) rfl (by decide) rfl ?_
  refine qr_lp2 (fun (S_1 : qv_St) (x4_1 : Int32) => [(0, .ref (G.2.2.1 260)), (1, .int x1), (2, .int x2), (3, .int x3), (4, .int x4_1)]) (fun (S_1 : qv_St) (x4_1 : Int32) => S_1) (fun self_1 hself_1 S_1 x4_1 => ?_) qv_N S0 0
  refine qr_iload (n := 5) 4 (dkX7_firstGoodWithout (i := 2) rfl) rfl rfl ?_
  refine qr_iload_n (n := 6) 3 (dkX7_firstGoodWithout (i := 3) rfl) rfl rfl ?_
  refine qr_icmp_gt (t := 29) (n := 9) (dkX7_firstGoodWithout (i := 4) rfl) (by decide) rfl ?_ ?_
  · refine qr_bipush (n := 31) (-2) (dkX7_firstGoodWithout (i := 15) rfl) rfl (by decide) ?_
    exact qr_iret (dkX7_firstGoodWithout (i := 16) rfl) rfl rfl
  · refine qr_aload_n (n := 10) 0 (dkX7_firstGoodWithout (i := 5) rfl) rfl rfl ?_
    refine qr_iload_n (n := 11) 2 (dkX7_firstGoodWithout (i := 6) rfl) rfl rfl ?_
    refine qr_iload (n := 13) 4 (dkX7_firstGoodWithout (i := 7) rfl) rfl rfl ?_
    refine qr_iload_n (n := 14) 1 (dkX7_firstGoodWithout (i := 8) rfl) rfl rfl ?_
    refine qr_cvm (n := 17) 260 [.int x2, .int x4_1, .int x1] (dkX7_firstGoodWithout (i := 9) rfl) rfl kvX7_105 rfl rfl (Nat.le_of_ble_eq_true rfl) rfl rfl lkO_260 rfl (wX7_firstUnclear G S_1 x2 x4_1 x1) (fun S_2 r_1 => ?_)
    refine qr_if_ge (t := 23) (n := 20) (dkX7_firstGoodWithout (i := 10) rfl) (by decide) rfl ?_ ?_
    · refine qr_iinc (n := 26) (v := 1) (lv2 := [(0, .ref (G.2.2.1 260)), (1, .int x1), (2, .int x2), (3, .int x3), (4, .int (x4_1 + 1))]) 4 [1, 2, 3, 4, 0] (dkX7_firstGoodWithout (i := 13) rfl) rfl rfl (by decide) (by decide) rfl ?_
      refine qr_goto (n := 3) (dkX7_firstGoodWithout (i := 14) rfl) (by decide) ?_
      exact hself_1 S_2 (x4_1 + 1)
    · refine qr_iload (n := 22) 4 (dkX7_firstGoodWithout (i := 11) rfl) rfl rfl ?_
      exact qr_iret (dkX7_firstGoodWithout (i := 12) rfl) rfl rfl
def tbX7_tooLoud : List (Nat × Instr × Nat) := [(0, .iconst 0, 1), (1, .istore_n 2, 1), (2, .iconst 0, 1), (3, .istore_n 3, 1), (4, .iload_n 3, 1), (5, .aload_n 0, 1), (6, .getfield 24, 3), (9, .getfield 99, 3), (12, .iload_n 1, 1), (13, .iaload, 1), (14, .if_icmp .ge 92, 3), (17, .aload_n 0, 1), (18, .getfield 32, 3), (21, .iload_n 1, 1), (22, .iload_n 3, 1), (23, .aload_n 0, 1), (24, .getfield 28, 3), (27, .getfield 42, 3), (30, .iload_n 3, 1), (31, .iadd, 1), (32, .invokevirtual 102, 3), (35, .istore 4, 2), (37, .aload_n 0, 1), (38, .iload_n 3, 1), (39, .invokevirtual 90, 3), (42, .invokestatic 84, 3), (45, .iload 4, 2), (47, .if_icmp .le 6, 3), (50, .bipush (-2), 2), (52, .ireturn, 1), (53, .iconst 0, 1), (54, .istore 5, 2), (56, .iload 5, 2), (58, .aload_n 0, 1), (59, .getfield 24, 3), (62, .getfield 47, 3), (65, .if_icmp .ge 35, 3), (68, .aload_n 0, 1), (69, .iload 5, 2), (71, .aload_n 0, 1), (72, .getfield 28, 3), (75, .getfield 108, 3), (78, .iload_n 3, 1), (79, .invokevirtual 111, 3), (82, .iload 4, 2), (84, .if_icmp .le 10, 3), (87, .iload_n 2, 1), (88, .iconst 1, 1), (89, .iload 5, 2), (91, .ishl, 1), (92, .ior, 1), (93, .istore_n 2, 1), (94, .iinc 5 1, 3), (97, .goto (-41), 3), (100, .iinc 3 1, 3), (103, .goto (-99), 3), (106, .iload_n 2, 1), (107, .ireturn, 1)]
set_option maxRecDepth 20000 in
theorem daX7_tooLoud : ∀ x ∈ tbX7_tooLoud, decode cX7_tooLoud x.1 = .ok x.2 := by decide +kernel
theorem dkX7_tooLoud {i pc n : Nat} {ins : Instr} (h : tbX7_tooLoud[i]? = some (pc, ins, n)) : decode cX7_tooLoud pc = .ok (ins, n) := daX7_tooLoud (pc, ins, n) (List.mem_of_getElem? h)
def fX7_tooLoud (S0 : qv_St) (x1 : Int32) : Option (qv_St × Int32) :=
  qv_lp3 qv_N (fun self_1 (S_1 : qv_St) (x2_1 : Int32) (x3_1 : Int32) =>
    qv_ck x1 6 <|
    if (S_1.1 17 (Int32.toNatClampNeg x1)) ≤ x3_1 then
      some (S_1, x2_1)
    else
      qv_cm (fX0_borne S_1 x1 x3_1 ((S_1.1 31 0) + x3_1)) fun S_2 r_1 =>
      qv_cm (fX7_soundAt S_2 x3_1) fun S_3 r_2 =>
      (fX7_rustlingOf r_2).bind fun r_3 =>
      if r_3 ≤ r_1 then
        qv_j (fun (S_4 : qv_St) (x2_2 : Int32) =>
          self_1 S_4 x2_2 (x3_1 + 1)) fun K_1 =>
        qv_lp3 qv_N (fun self_2 (S_5 : qv_St) (x2_3 : Int32) (x5_1 : Int32) =>
          if (S_5.1 9 0) ≤ x5_1 then
            K_1 S_5 x2_3
          else
            qv_cm (fX7_heardOf S_5 x5_1 (S_5.1 31 1) x3_1) fun S_6 r_4 =>
            qv_j (fun (x2_4 : Int32) =>
              self_2 S_6 x2_4 (x5_1 + 1)) fun K_2 =>
            if r_4 ≤ r_1 then
              K_2 x2_3
            else
              qv_b ((x2_3 ||| (1 <<< (x5_1 &&& 31))) : Int32) fun x2_5 =>
              K_2 x2_5) S_3 x2_1 0
      else
        some (S_3, (-2))) S0 0 0
set_option maxRecDepth 20000 in
set_option maxHeartbeats 4000000 in
theorem wX7_tooLoud (G : qv_GT) (S0 : qv_St) (x1 : Int32) : ∀ r, fX7_tooLoud S0 x1 = some r → Cn G Lk yX7_tooLoud cX7_tooLoud 6 (some .int) 5 [.ref (G.2.2.1 260), .int x1] S0 (qe_m r) := by
  refine cn_of (own := RX7) (emb := qe_m) (lv := [(0, .ref (G.2.2.1 260)), (1, .int x1)]) rfl rfl (Nat.le_of_ble_eq_true rfl) rfl (fun X => ?_)
  unfold fX7_tooLoud
  refine qr_iconst (n := 1) 0 (dkX7_tooLoud (i := 0) rfl) rfl (by decide) ?_
  refine qr_istore_n (n := 2) (lv2 := [(0, .ref (G.2.2.1 260)), (1, .int x1), (2, .int 0)]) [1, 2, 0] (dkX7_tooLoud (i := 1) rfl) rfl rfl (by decide) rfl ?_
  refine qr_iconst (n := 3) 0 (dkX7_tooLoud (i := 2) rfl) rfl (by decide) ?_
  refine qr_istore_n (n := 4) (lv2 := [(0, .ref (G.2.2.1 260)), (1, .int x1), (2, .int 0), (3, .int 0)]) [1, 2, 3, 0] (dkX7_tooLoud (i := 3) rfl) rfl rfl (by decide) rfl ?_
  refine qr_lp3 (fun (S_1 : qv_St) (x2_1 : Int32) (x3_1 : Int32) => [(0, .ref (G.2.2.1 260)), (1, .int x1), (2, .int x2_1), (3, .int x3_1)]) (fun (S_1 : qv_St) (x2_1 : Int32) (x3_1 : Int32) => S_1) (fun self_1 hself_1 S_1 x2_1 x3_1 => ?_) qv_N S0 0 0
  refine qr_iload_n (n := 5) 3 (dkX7_tooLoud (i := 4) rfl) rfl rfl ?_
  refine qr_aload_n (n := 6) 0 (dkX7_tooLoud (i := 5) rfl) rfl rfl ?_
  refine qr_geta (n := 9) 260 0 9 (dkX7_tooLoud (i := 6) rfl) rfl lkO_260 rfl gnX7 (Nat.le_of_ble_eq_true rfl) kfX7_24 rfl ?_
  refine qr_geta (n := 12) 9 10 17 (dkX7_tooLoud (i := 7) rfl) rfl lkO_9 rfl gnX5 (Nat.le_of_ble_eq_true rfl) kfX7_99 rfl ?_
  refine qr_iload_n (n := 13) 1 (dkX7_tooLoud (i := 8) rfl) rfl rfl ?_
  refine qr_iald (n := 14) 17 6 (dkX7_tooLoud (i := 9) rfl) rfl lkA_17 ?_
  refine qr_icmp_ge (t := 106) (n := 17) (dkX7_tooLoud (i := 10) rfl) (by decide) rfl ?_ ?_
  · refine qr_iload_n (n := 107) 2 (dkX7_tooLoud (i := 56) rfl) rfl rfl ?_
    exact qr_iret (dkX7_tooLoud (i := 57) rfl) rfl rfl
  · refine qr_aload_n (n := 18) 0 (dkX7_tooLoud (i := 11) rfl) rfl rfl ?_
    refine qr_geta (n := 21) 260 2 254 (dkX7_tooLoud (i := 12) rfl) rfl lkO_260 rfl gnX7 (Nat.le_of_ble_eq_true rfl) kfX7_32 rfl ?_
    refine qr_iload_n (n := 22) 1 (dkX7_tooLoud (i := 13) rfl) rfl rfl ?_
    refine qr_iload_n (n := 23) 3 (dkX7_tooLoud (i := 14) rfl) rfl rfl ?_
    refine qr_aload_n (n := 24) 0 (dkX7_tooLoud (i := 15) rfl) rfl rfl ?_
    refine qr_geta (n := 27) 260 1 31 (dkX7_tooLoud (i := 16) rfl) rfl lkO_260 rfl gnX7 (Nat.le_of_ble_eq_true rfl) kfX7_28 rfl ?_
    refine qr_geti (n := 30) 31 0 (dkX7_tooLoud (i := 17) rfl) rfl lkO_31 rfl gnX6 (Nat.le_of_ble_eq_true rfl) kfX7_42 rfl ?_
    refine qr_iload_n (n := 31) 3 (dkX7_tooLoud (i := 18) rfl) rfl rfl ?_
    refine qr_iadd (n := 32) (dkX7_tooLoud (i := 19) rfl) rfl ?_
    refine qr_cvm (n := 35) 254 [.int x1, .int x3_1, .int ((S_1.1 31 0) + x3_1)] (dkX7_tooLoud (i := 20) rfl) rfl kvX7_102 rfl rfl (Nat.le_of_ble_eq_true rfl) rfl rfl lkO_254 rfl (wX0_borne G S_1 x1 x3_1 ((S_1.1 31 0) + x3_1)) (fun S_2 r_1 => ?_)
    refine qr_istore (n := 37) (lv2 := [(0, .ref (G.2.2.1 260)), (1, .int x1), (2, .int x2_1), (3, .int x3_1), (4, .int r_1)]) [1, 2, 3, 4, 0] (dkX7_tooLoud (i := 21) rfl) rfl (by decide) rfl ?_
    refine qr_aload_n (n := 38) 0 (dkX7_tooLoud (i := 22) rfl) rfl rfl ?_
    refine qr_iload_n (n := 39) 3 (dkX7_tooLoud (i := 23) rfl) rfl rfl ?_
    refine qr_cvm (n := 42) 260 [.int x3_1] (dkX7_tooLoud (i := 24) rfl) rfl kvX7_90 rfl rfl (Nat.le_of_ble_eq_true rfl) rfl rfl lkO_260 rfl (wX7_soundAt G S_2 x3_1) (fun S_3 r_2 => ?_)
    refine qr_csi (n := 45) [.int r_2] (dkX7_tooLoud (i := 25) rfl) rfl kvX7_84 rfl rfl (Nat.le_of_ble_eq_true rfl) rfl rfl (wX7_rustlingOf G S_3 r_2) (fun r_3 => ?_)
    refine qr_iload (n := 47) 4 (dkX7_tooLoud (i := 26) rfl) rfl rfl ?_
    refine qr_icmp_le (t := 53) (n := 50) (dkX7_tooLoud (i := 27) rfl) (by decide) rfl ?_ ?_
    · refine qr_iconst (n := 54) 0 (dkX7_tooLoud (i := 30) rfl) rfl (by decide) ?_
      refine qr_istore (n := 56) (lv2 := [(0, .ref (G.2.2.1 260)), (1, .int x1), (2, .int x2_1), (3, .int x3_1), (4, .int r_1), (5, .int 0)]) [1, 2, 3, 4, 5, 0] (dkX7_tooLoud (i := 31) rfl) rfl (by decide) rfl ?_
      refine qr_j (fun K_1 : qv_St → Int32 → Option (qv_St × Int32) => ∀ (S_4 : qv_St) (x2_2 : Int32), VV G Lk X RX7 cX7_tooLoud 6 (some .int) 5 qe_m 100 [(0, .ref (G.2.2.1 260)), (1, .int x1), (2, .int x2_2), (3, .int x3_1)] [] S_4 (K_1 S_4 x2_2)) (fun S_4 x2_2 => ?_) (fun K_1 hK_1 => ?_)
      · refine qr_iinc (n := 103) (v := 1) (lv2 := [(0, .ref (G.2.2.1 260)), (1, .int x1), (2, .int x2_2), (3, .int (x3_1 + 1))]) 3 [1, 2, 3, 0] (dkX7_tooLoud (i := 54) rfl) rfl rfl (by decide) (by decide) rfl ?_
        refine qr_goto (n := 4) (dkX7_tooLoud (i := 55) rfl) (by decide) ?_
        exact hself_1 S_4 x2_2 (x3_1 + 1)
      · refine qr_lp3 (fun (S_5 : qv_St) (x2_3 : Int32) (x5_1 : Int32) => [(0, .ref (G.2.2.1 260)), (1, .int x1), (2, .int x2_3), (3, .int x3_1), (4, .int r_1), (5, .int x5_1)]) (fun (S_5 : qv_St) (x2_3 : Int32) (x5_1 : Int32) => S_5) (fun self_2 hself_2 S_5 x2_3 x5_1 => ?_) qv_N S_3 x2_1 0
        refine qr_iload (n := 58) 5 (dkX7_tooLoud (i := 32) rfl) rfl rfl ?_
        refine qr_aload_n (n := 59) 0 (dkX7_tooLoud (i := 33) rfl) rfl rfl ?_
        refine qr_geta (n := 62) 260 0 9 (dkX7_tooLoud (i := 34) rfl) rfl lkO_260 rfl gnX7 (Nat.le_of_ble_eq_true rfl) kfX7_24 rfl ?_
        refine qr_geti (n := 65) 9 0 (dkX7_tooLoud (i := 35) rfl) rfl lkO_9 rfl gnX5 (Nat.le_of_ble_eq_true rfl) kfX7_47 rfl ?_
        refine qr_icmp_ge (t := 100) (n := 68) (dkX7_tooLoud (i := 36) rfl) (by decide) rfl ?_ ?_
        · refine qr_sub [0, 1, 2, 3] rfl ?_
          exact hK_1 S_5 x2_3
        · refine qr_aload_n (n := 69) 0 (dkX7_tooLoud (i := 37) rfl) rfl rfl ?_
          refine qr_iload (n := 71) 5 (dkX7_tooLoud (i := 38) rfl) rfl rfl ?_
          refine qr_aload_n (n := 72) 0 (dkX7_tooLoud (i := 39) rfl) rfl rfl ?_
          refine qr_geta (n := 75) 260 1 31 (dkX7_tooLoud (i := 40) rfl) rfl lkO_260 rfl gnX7 (Nat.le_of_ble_eq_true rfl) kfX7_28 rfl ?_
          refine qr_geti (n := 78) 31 1 (dkX7_tooLoud (i := 41) rfl) rfl lkO_31 rfl gnX6 (Nat.le_of_ble_eq_true rfl) kfX7_108 rfl ?_
          refine qr_iload_n (n := 79) 3 (dkX7_tooLoud (i := 42) rfl) rfl rfl ?_
          refine qr_cvm (n := 82) 260 [.int x5_1, .int (S_5.1 31 1), .int x3_1] (dkX7_tooLoud (i := 43) rfl) rfl kvX7_111 rfl rfl (Nat.le_of_ble_eq_true rfl) rfl rfl lkO_260 rfl (wX7_heardOf G S_5 x5_1 (S_5.1 31 1) x3_1) (fun S_6 r_4 => ?_)
          refine qr_iload (n := 84) 4 (dkX7_tooLoud (i := 44) rfl) rfl rfl ?_
          refine qr_j (fun K_2 : Int32 → Option (qv_St × Int32) => ∀ (x2_4 : Int32), VV G Lk X RX7 cX7_tooLoud 6 (some .int) 5 qe_m 94 [(0, .ref (G.2.2.1 260)), (1, .int x1), (2, .int x2_4), (3, .int x3_1), (4, .int r_1), (5, .int x5_1)] [] S_6 (K_2 x2_4)) (fun x2_4 => ?_) (fun K_2 hK_2 => ?_)
          · refine qr_iinc (n := 97) (v := 1) (lv2 := [(0, .ref (G.2.2.1 260)), (1, .int x1), (2, .int x2_4), (3, .int x3_1), (4, .int r_1), (5, .int (x5_1 + 1))]) 5 [1, 2, 3, 4, 5, 0] (dkX7_tooLoud (i := 52) rfl) rfl rfl (by decide) (by decide) rfl ?_
            refine qr_goto (n := 56) (dkX7_tooLoud (i := 53) rfl) (by decide) ?_
            exact hself_2 S_6 x2_4 (x5_1 + 1)
          · refine qr_icmp_le (t := 94) (n := 87) (dkX7_tooLoud (i := 45) rfl) (by decide) rfl ?_ ?_
            · exact hK_2 x2_3
            · refine qr_iload_n (n := 88) 2 (dkX7_tooLoud (i := 46) rfl) rfl rfl ?_
              refine qr_iconst (n := 89) 1 (dkX7_tooLoud (i := 47) rfl) rfl (by decide) ?_
              refine qr_iload (n := 91) 5 (dkX7_tooLoud (i := 48) rfl) rfl rfl ?_
              refine qr_ishl (n := 92) (dkX7_tooLoud (i := 49) rfl) rfl ?_
              refine qr_ior (n := 93) (dkX7_tooLoud (i := 50) rfl) rfl ?_
              refine qr_b (α := Int32) (x2_3 ||| (1 <<< (x5_1 &&& 31))) (lvf := fun _ => [(0, .ref (G.2.2.1 260)), (1, .int x1), (2, .int x2_3), (3, .int x3_1), (4, .int r_1), (5, .int x5_1)]) (stf := fun z => .int z :: []) (Sf := fun _ => S_6) (fun x2_5 => ?_)
              refine qr_istore_n (n := 94) (lv2 := [(0, .ref (G.2.2.1 260)), (1, .int x1), (2, .int x2_5), (3, .int x3_1), (4, .int r_1), (5, .int x5_1)]) [1, 2, 0, 3, 4, 5] (dkX7_tooLoud (i := 51) rfl) rfl rfl (by decide) rfl ?_
              exact hK_2 x2_5
    · refine qr_bipush (n := 52) (-2) (dkX7_tooLoud (i := 28) rfl) rfl (by decide) ?_
      exact qr_iret (dkX7_tooLoud (i := 29) rfl) rfl rfl
