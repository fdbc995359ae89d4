def tbX12_begins : List (Nat × Instr × Nat) := [(0, .iconst 0, 1), (1, .istore_n 1, 1), (2, .iload_n 1, 1), (3, .bipush 32, 2), (5, .if_icmp .ge 16, 3), (8, .aload_n 0, 1), (9, .getfield 128, 3), (12, .iload_n 1, 1), (13, .iconst 0, 1), (14, .iastore, 1), (15, .iinc 1 1, 3), (18, .goto (-16), 3), (21, .aload_n 0, 1), (22, .getfield 128, 3), (25, .iconst 3, 1), (26, .aload_n 0, 1), (27, .getfield 83, 3), (30, .aload_n 0, 1), (31, .getfield 242, 3), (34, .iaload, 1), (35, .iastore, 1), (36, .aload_n 0, 1), (37, .aload_n 0, 1), (38, .getfield 86, 3), (41, .aload_n 0, 1), (42, .getfield 242, 3), (45, .iaload, 1), (46, .putfield 323, 3), (49, .return_, 1)]
set_option maxRecDepth 20000 in
theorem daX12_begins : ∀ x ∈ tbX12_begins, decode cX12_begins x.1 = .ok x.2 := by decide +kernel
theorem dkX12_begins {i pc n : Nat} {ins : Instr} (h : tbX12_begins[i]? = some (pc, ins, n)) : decode cX12_begins pc = .ok (ins, n) := daX12_begins (pc, ins, n) (List.mem_of_getElem? h)
def fX12_begins (S0 : qv_St) : Option qv_St :=
  qv_j (fun (S_1 : qv_St) =>
    qv_ck (S_1.1 0 18) 2 <|
    qv_ck 3 32 <| qv_b (qv_si S_1 37 (Int32.toNatClampNeg 3) (S_1.1 22 (Int32.toNatClampNeg (S_1.1 0 18)))) fun S_2 =>
    qv_ck (S_2.1 0 18) 2 <|
    qv_b (qv_si S_2 0 55 (S_2.1 23 (Int32.toNatClampNeg (S_2.1 0 18)))) fun S_3 =>
    some S_3) fun K_1 =>
  qv_lp2 qv_N (fun self_1 (S_4 : qv_St) (x1_1 : Int32) =>
    if 32 ≤ x1_1 then
      K_1 S_4
    else
      qv_ck x1_1 32 <| qv_b (qv_si S_4 37 (Int32.toNatClampNeg x1_1) 0) fun S_5 =>
      self_1 S_5 (x1_1 + 1)) S0 0
set_option maxRecDepth 20000 in
set_option maxHeartbeats 4000000 in
theorem wX12_begins (G : qv_GT) (S0 : qv_St) : ∀ r, fX12_begins S0 = some r → Cn G Lm yX12_begins cX12_begins 2 none 1 [.ref (G.2.2.1 0)] S0 (qe_u r) := by
  refine cn_of (own := RX12) (emb := qe_u) (lv := [(0, .ref (G.2.2.1 0))]) rfl rfl (Nat.le_of_ble_eq_true rfl) rfl (fun X => ?_)
  unfold fX12_begins
  refine qr_iconst (n := 1) 0 (dkX12_begins (i := 0) rfl) rfl (by decide) ?_
  refine qr_istore_n (n := 2) (lv2 := [(0, .ref (G.2.2.1 0)), (1, .int 0)]) [1, 0] (dkX12_begins (i := 1) rfl) rfl rfl (by decide) rfl ?_
  refine qr_j (fun K_1 : qv_St → Option qv_St => ∀ (S_1 : qv_St), VV G Lm X RX12 cX12_begins 2 none 1 qe_u 21 [(0, .ref (G.2.2.1 0))] [] S_1 (K_1 S_1)) (fun S_1 => ?_) (fun K_1 hK_1 => ?_)
  · refine qr_aload_n (n := 22) 0 (dkX12_begins (i := 12) rfl) rfl rfl ?_
    refine qr_geta (n := 25) 0 54 37 (dkX12_begins (i := 13) rfl) rfl lmO rfl gnX12 (Nat.le_of_ble_eq_true rfl) kfX12_128 rfl ?_
    refine qr_iconst (n := 26) 3 (dkX12_begins (i := 14) rfl) rfl (by decide) ?_
    refine qr_aload_n (n := 27) 0 (dkX12_begins (i := 15) rfl) rfl rfl ?_
    refine qr_geta (n := 30) 0 35 22 (dkX12_begins (i := 16) rfl) rfl lmO rfl gnX12 (Nat.le_of_ble_eq_true rfl) kfX12_83 rfl ?_
    refine qr_aload_n (n := 31) 0 (dkX12_begins (i := 17) rfl) rfl rfl ?_
    refine qr_geti (n := 34) 0 18 (dkX12_begins (i := 18) rfl) rfl lmO rfl gnX12 (Nat.le_of_ble_eq_true rfl) kfX12_242 rfl ?_
    refine qr_iald (n := 35) 22 2 (dkX12_begins (i := 19) rfl) rfl lmA_22 ?_
    refine qr_iast (n := 36) 37 32 (dkX12_begins (i := 20) rfl) rfl lmA_37 (fun S_2 => ?_)
    refine qr_aload_n (n := 37) 0 (dkX12_begins (i := 21) rfl) rfl rfl ?_
    refine qr_aload_n (n := 38) 0 (dkX12_begins (i := 22) rfl) rfl rfl ?_
    refine qr_geta (n := 41) 0 36 23 (dkX12_begins (i := 23) rfl) rfl lmO rfl gnX12 (Nat.le_of_ble_eq_true rfl) kfX12_86 rfl ?_
    refine qr_aload_n (n := 42) 0 (dkX12_begins (i := 24) rfl) rfl rfl ?_
    refine qr_geti (n := 45) 0 18 (dkX12_begins (i := 25) rfl) rfl lmO rfl gnX12 (Nat.le_of_ble_eq_true rfl) kfX12_242 rfl ?_
    refine qr_iald (n := 46) 23 2 (dkX12_begins (i := 26) rfl) rfl lmA_23 ?_
    refine qr_puti (n := 49) 0 55 (dkX12_begins (i := 27) rfl) rfl lmO rfl gnX12 (Nat.le_of_ble_eq_true rfl) kfX12_323 rfl tyX12_ok nmX12 rfl rfl (fun S_3 => ?_)
    exact qr_vret (dkX12_begins (i := 28) rfl) rfl rfl
  · refine qr_lp2 (fun (S_4 : qv_St) (x1_1 : Int32) => [(0, .ref (G.2.2.1 0)), (1, .int x1_1)]) (fun (S_4 : qv_St) (x1_1 : Int32) => S_4) (fun self_1 hself_1 S_4 x1_1 => ?_) qv_N S0 0
    refine qr_iload_n (n := 3) 1 (dkX12_begins (i := 2) rfl) rfl rfl ?_
    refine qr_bipush (n := 5) 32 (dkX12_begins (i := 3) rfl) rfl (by decide) ?_
    refine qr_icmp_ge (t := 21) (n := 8) (dkX12_begins (i := 4) rfl) (by decide) rfl ?_ ?_
    · refine qr_sub [0] rfl ?_
      exact hK_1 S_4
    · refine qr_aload_n (n := 9) 0 (dkX12_begins (i := 5) rfl) rfl rfl ?_
      refine qr_geta (n := 12) 0 54 37 (dkX12_begins (i := 6) rfl) rfl lmO rfl gnX12 (Nat.le_of_ble_eq_true rfl) kfX12_128 rfl ?_
      refine qr_iload_n (n := 13) 1 (dkX12_begins (i := 7) rfl) rfl rfl ?_
      refine qr_iconst (n := 14) 0 (dkX12_begins (i := 8) rfl) rfl (by decide) ?_
      refine qr_iast (n := 15) 37 32 (dkX12_begins (i := 9) rfl) rfl lmA_37 (fun S_5 => ?_)
      refine qr_iinc (n := 18) (v := 1) (lv2 := [(0, .ref (G.2.2.1 0)), (1, .int (x1_1 + 1))]) 1 [1, 0] (dkX12_begins (i := 10) rfl) rfl rfl (by decide) (by decide) rfl ?_
      refine qr_goto (n := 2) (dkX12_begins (i := 11) rfl) (by decide) ?_
      exact hself_1 S_5 (x1_1 + 1)
def tbX12_keepsRow : List (Nat × Instr × Nat) := [(0, .iconst 0, 1), (1, .istore_n 1, 1), (2, .iload_n 1, 1), (3, .bipush 32, 2), (5, .if_icmp .ge 21, 3), (8, .aload_n 0, 1), (9, .getfield 125, 3), (12, .iload_n 1, 1), (13, .aload_n 0, 1), (14, .getfield 128, 3), (17, .iload_n 1, 1), (18, .iaload, 1), (19, .iastore, 1), (20, .iinc 1 1, 3), (23, .goto (-21), 3), (26, .return_, 1)]
set_option maxRecDepth 20000 in
theorem daX12_keepsRow : ∀ x ∈ tbX12_keepsRow, decode cX12_keepsRow x.1 = .ok x.2 := by decide +kernel
theorem dkX12_keepsRow {i pc n : Nat} {ins : Instr} (h : tbX12_keepsRow[i]? = some (pc, ins, n)) : decode cX12_keepsRow pc = .ok (ins, n) := daX12_keepsRow (pc, ins, n) (List.mem_of_getElem? h)
def fX12_keepsRow (S0 : qv_St) : Option qv_St :=
  qv_lp2 qv_N (fun self_1 (S_1 : qv_St) (x1_1 : Int32) =>
    if 32 ≤ x1_1 then
      some S_1
    else
      qv_ck x1_1 32 <|
      qv_ck x1_1 32 <| qv_b (qv_si S_1 36 (Int32.toNatClampNeg x1_1) (S_1.1 37 (Int32.toNatClampNeg x1_1))) fun S_2 =>
      self_1 S_2 (x1_1 + 1)) S0 0
set_option maxRecDepth 20000 in
set_option maxHeartbeats 4000000 in
theorem wX12_keepsRow (G : qv_GT) (S0 : qv_St) : ∀ r, fX12_keepsRow S0 = some r → Cn G Lm yX12_keepsRow cX12_keepsRow 2 none 1 [.ref (G.2.2.1 0)] S0 (qe_u r) := by
  refine cn_of (own := RX12) (emb := qe_u) (lv := [(0, .ref (G.2.2.1 0))]) rfl rfl (Nat.le_of_ble_eq_true rfl) rfl (fun X => ?_)
  unfold fX12_keepsRow
  refine qr_iconst (n := 1) 0 (dkX12_keepsRow (i := 0) rfl) rfl (by decide) ?_
  refine qr_istore_n (n := 2) (lv2 := [(0, .ref (G.2.2.1 0)), (1, .int 0)]) [1, 0] (dkX12_keepsRow (i := 1) rfl) rfl rfl (by decide) rfl ?_
  refine qr_lp2 (fun (S_1 : qv_St) (x1_1 : Int32) => [(0, .ref (G.2.2.1 0)), (1, .int x1_1)]) (fun (S_1 : qv_St) (x1_1 : Int32) => S_1) (fun self_1 hself_1 S_1 x1_1 => ?_) qv_N S0 0
  refine qr_iload_n (n := 3) 1 (dkX12_keepsRow (i := 2) rfl) rfl rfl ?_
  refine qr_bipush (n := 5) 32 (dkX12_keepsRow (i := 3) rfl) rfl (by decide) ?_
  refine qr_icmp_ge (t := 26) (n := 8) (dkX12_keepsRow (i := 4) rfl) (by decide) rfl ?_ ?_
  · exact qr_vret (dkX12_keepsRow (i := 15) rfl) rfl rfl
  · refine qr_aload_n (n := 9) 0 (dkX12_keepsRow (i := 5) rfl) rfl rfl ?_
    refine qr_geta (n := 12) 0 53 36 (dkX12_keepsRow (i := 6) rfl) rfl lmO rfl gnX12 (Nat.le_of_ble_eq_true rfl) kfX12_125 rfl ?_
    refine qr_iload_n (n := 13) 1 (dkX12_keepsRow (i := 7) rfl) rfl rfl ?_
    refine qr_aload_n (n := 14) 0 (dkX12_keepsRow (i := 8) rfl) rfl rfl ?_
    refine qr_geta (n := 17) 0 54 37 (dkX12_keepsRow (i := 9) rfl) rfl lmO rfl gnX12 (Nat.le_of_ble_eq_true rfl) kfX12_128 rfl ?_
    refine qr_iload_n (n := 18) 1 (dkX12_keepsRow (i := 10) rfl) rfl rfl ?_
    refine qr_iald (n := 19) 37 32 (dkX12_keepsRow (i := 11) rfl) rfl lmA_37 ?_
    refine qr_iast (n := 20) 36 32 (dkX12_keepsRow (i := 12) rfl) rfl lmA_36 (fun S_2 => ?_)
    refine qr_iinc (n := 23) (v := 1) (lv2 := [(0, .ref (G.2.2.1 0)), (1, .int (x1_1 + 1))]) 1 [1, 0] (dkX12_keepsRow (i := 13) rfl) rfl rfl (by decide) (by decide) rfl ?_
    refine qr_goto (n := 2) (dkX12_keepsRow (i := 14) rfl) (by decide) ?_
    exact hself_1 S_2 (x1_1 + 1)
def tbX12_read : List (Nat × Instr × Nat) := [(0, .aload_n 0, 1), (1, .aload_n 0, 1), (2, .getfield 175, 3), (5, .putfield 181, 3), (8, .iconst 0, 1), (9, .istore_n 1, 1), (10, .iload_n 1, 1), (11, .aload_n 0, 1), (12, .getfield 181, 3), (15, .if_icmp .ge 21, 3), (18, .aload_n 0, 1), (19, .getfield 17, 3), (22, .iload_n 1, 1), (23, .aload_n 0, 1), (24, .getfield 13, 3), (27, .iload_n 1, 1), (28, .baload, 1), (29, .bastore, 1), (30, .iinc 1 1, 3), (33, .goto (-23), 3), (36, .aload_n 0, 1), (37, .iconst 0, 1), (38, .putfield 175, 3), (41, .aload_n 0, 1), (42, .invokevirtual 236, 3), (45, .aload_n 0, 1), (46, .iconst 0, 1), (47, .putfield 215, 3), (50, .aload_n 0, 1), (51, .iconst 0, 1), (52, .putfield 239, 3), (55, .aload_n 0, 1), (56, .iconst 0, 1), (57, .putfield 212, 3), (60, .aload_n 0, 1), (61, .iconst 0, 1), (62, .putfield 221, 3), (65, .aload_n 0, 1), (66, .iconst 1, 1), (67, .aload_n 0, 1), (68, .getfield 242, 3), (71, .isub, 1), (72, .putfield 245, 3), (75, .aload_n 0, 1), (76, .iconst 0, 1), (77, .putfield 248, 3), (80, .aload_n 0, 1), (81, .aload_n 0, 1), (82, .getfield 245, 3), (85, .invokevirtual 161, 3), (88, .aload_n 0, 1), (89, .sipush 130, 3), (92, .aload_n 0, 1), (93, .getfield 245, 3), (96, .imul, 1), (97, .putfield 251, 3), (100, .aload_n 0, 1), (101, .sipush 420, 3), (104, .aload_n 0, 1), (105, .getfield 245, 3), (108, .imul, 1), (109, .putfield 254, 3), (112, .aload_n 0, 1), (113, .getfield 212, 3), (116, .ifCond .ne 18, 3), (119, .aload_n 0, 1), (120, .iconst 0, 1), (121, .invokevirtual 230, 3), (124, .ifCond .ne 10, 3), (127, .aload_n 0, 1), (128, .invokevirtual 257, 3), (131, .goto (-19), 3), (134, .aload_n 0, 1), (135, .aload_n 0, 1), (136, .getfield 212, 3), (139, .ifCond .le 10, 3), (142, .aload_n 0, 1), (143, .getfield 218, 3), (146, .goto 18, 3), (149, .aload_n 0, 1), (150, .getfield 221, 3), (153, .ifCond .le 10, 3), (156, .aload_n 0, 1), (157, .getfield 224, 3), (160, .goto 4, 3), (163, .iconst (-1), 1), (164, .putfield 37, 3), (167, .aload_n 0, 1), (168, .getfield 212, 3), (171, .ifCond .le 8, 3), (174, .aload_n 0, 1), (175, .getfield 212, 3), (178, .ireturn, 1), (179, .aload_n 0, 1), (180, .getfield 221, 3), (183, .ifCond .le 8, 3), (186, .aload_n 0, 1), (187, .getfield 221, 3), (190, .ireturn, 1), (191, .aload_n 0, 1), (192, .aload_n 0, 1), (193, .getfield 245, 3), (196, .putfield 242, 3), (199, .aload_n 0, 1), (200, .invokevirtual 169, 3), (203, .aload_n 0, 1), (204, .invokevirtual 172, 3), (207, .aload_n 0, 1), (208, .iconst 0, 1), (209, .putfield 260, 3), (212, .aload_n 0, 1), (213, .iconst 0, 1), (214, .putfield 263, 3), (217, .iconst 0, 1), (218, .istore_n 1, 1), (219, .iload_n 1, 1), (220, .iconst 3, 1), (221, .if_icmp .ge 16, 3), (224, .aload_n 0, 1), (225, .getfield 155, 3), (228, .iload_n 1, 1), (229, .iconst 0, 1), (230, .bastore, 1), (231, .iinc 1 1, 3), (234, .goto (-15), 3), (237, .iconst 0, 1), (238, .ireturn, 1)]
set_option maxRecDepth 20000 in
theorem daX12_read : ∀ x ∈ tbX12_read, decode cX12_read x.1 = .ok x.2 := by decide +kernel
theorem dkX12_read {i pc n : Nat} {ins : Instr} (h : tbX12_read[i]? = some (pc, ins, n)) : decode cX12_read pc = .ok (ins, n) := daX12_read (pc, ins, n) (List.mem_of_getElem? h)
def fX12_read (S0 : qv_St) : Option (qv_St × Int32) :=
  qv_b (qv_si S0 0 4 (S0.1 0 2)) fun S_1 =>
  qv_j (fun (S_2 : qv_St) =>
    qv_b (qv_si S_2 0 2 0) fun S_3 =>
    (fX12_cut S_3).bind fun S_4 =>
    qv_b (qv_si S_4 0 11 0) fun S_5 =>
    qv_b (qv_si S_5 0 12 0) fun S_6 =>
    qv_b (qv_si S_6 0 13 0) fun S_7 =>
    qv_b (qv_si S_7 0 15 0) fun S_8 =>
    qv_b (qv_si S_8 0 19 (1 - (S_8.1 0 18))) fun S_9 =>
    qv_b (qv_si S_9 0 20 0) fun S_10 =>
    (fX12_plain S_10 (S_10.1 0 19)).bind fun S_11 =>
    qv_b (qv_si S_11 0 39 (130 * (S_11.1 0 19))) fun S_12 =>
    qv_b (qv_si S_12 0 45 (420 * (S_12.1 0 19))) fun S_13 =>
    qv_j (fun (S_14 : qv_St) =>
      qv_j (fun (t_1 : Int32) =>
        qv_b (qv_si S_14 0 17 t_1) fun S_15 =>
        if (S_15.1 0 13) ≤ 0 then
          if (S_15.1 0 15) ≤ 0 then
            qv_b (qv_si S_15 0 18 (S_15.1 0 19)) fun S_16 =>
            (fX12_begins S_16).bind fun S_17 =>
            (fX12_keepsRow S_17).bind fun S_18 =>
            qv_b (qv_si S_18 0 57 0) fun S_19 =>
            qv_b (qv_si S_19 0 65 0) fun S_20 =>
            qv_lp2 qv_N (fun self_1 (S_21 : qv_St) (x1_1 : Int32) =>
              if 3 ≤ x1_1 then
                some (S_21, 0)
              else
                qv_ck x1_1 3 <| qv_b (qv_si S_21 46 (Int32.toNatClampNeg x1_1) (vp_nar .boolean 0)) fun S_22 =>
                self_1 S_22 (x1_1 + 1)) S_20 0
          else
            some (S_15, (S_15.1 0 15))
        else
          some (S_15, (S_15.1 0 13))) fun K_3 =>
      if (S_14.1 0 13) ≤ 0 then
        if (S_14.1 0 15) ≤ 0 then
          K_3 (-1)
        else
          K_3 (S_14.1 0 16)
      else
        K_3 (S_14.1 0 14)) fun K_2 =>
    qv_lp1 qv_N (fun self_2 (S_23 : qv_St) =>
      if (S_23.1 0 13) = 0 then
        (fX12_is S_23 0).bind fun r_1 =>
        if r_1 = 0 then
          (fX12_tellOne S_23).bind fun S_24 =>
          self_2 S_24
        else
          K_2 S_23
      else
        K_2 S_23) S_13) fun K_1 =>
  qv_lp2 qv_N (fun self_3 (S_25 : qv_St) (x1_2 : Int32) =>
    if (S_25.1 0 4) ≤ x1_2 then
      K_1 S_25
    else
      qv_ck x1_2 2000 <|
      qv_ck x1_2 2000 <| qv_b (qv_si S_25 2 (Int32.toNatClampNeg x1_2) (vp_nar .byte (S_25.1 1 (Int32.toNatClampNeg x1_2)))) fun S_26 =>
      self_3 S_26 (x1_2 + 1)) S_1 0
set_option maxRecDepth 20000 in
set_option maxHeartbeats 4000000 in
theorem wX12_read (G : qv_GT) (S0 : qv_St) : ∀ r, fX12_read S0 = some r → Cn G Lm yX12_read cX12_read 2 (some .int) 8 [.ref (G.2.2.1 0)] S0 (qe_m r) := by
  refine cn_of (own := RX12) (emb := qe_m) (lv := [(0, .ref (G.2.2.1 0))]) rfl rfl (Nat.le_of_ble_eq_true rfl) rfl (fun X => ?_)
  unfold fX12_read
  refine qr_aload_n (n := 1) 0 (dkX12_read (i := 0) rfl) rfl rfl ?_
  refine qr_aload_n (n := 2) 0 (dkX12_read (i := 1) rfl) rfl rfl ?_
  refine qr_geti (n := 5) 0 2 (dkX12_read (i := 2) rfl) rfl lmO rfl gnX12 (Nat.le_of_ble_eq_true rfl) kfX12_175 rfl ?_
  refine qr_puti (n := 8) 0 4 (dkX12_read (i := 3) rfl) rfl lmO rfl gnX12 (Nat.le_of_ble_eq_true rfl) kfX12_181 rfl tyX12_ok nmX12 rfl rfl (fun S_1 => ?_)
  refine qr_iconst (n := 9) 0 (dkX12_read (i := 4) rfl) rfl (by decide) ?_
  refine qr_istore_n (n := 10) (lv2 := [(0, .ref (G.2.2.1 0)), (1, .int 0)]) [1, 0] (dkX12_read (i := 5) rfl) rfl rfl (by decide) rfl ?_
  refine qr_j (fun K_1 : qv_St → Option (qv_St × Int32) => ∀ (S_2 : qv_St), VV G Lm X RX12 cX12_read 2 (some .int) 8 qe_m 36 [(0, .ref (G.2.2.1 0))] [] S_2 (K_1 S_2)) (fun S_2 => ?_) (fun K_1 hK_1 => ?_)
  · refine qr_aload_n (n := 37) 0 (dkX12_read (i := 20) rfl) rfl rfl ?_
    refine qr_iconst (n := 38) 0 (dkX12_read (i := 21) rfl) rfl (by decide) ?_
    refine qr_puti (n := 41) 0 2 (dkX12_read (i := 22) rfl) rfl lmO rfl gnX12 (Nat.le_of_ble_eq_true rfl) kfX12_175 rfl tyX12_ok nmX12 rfl rfl (fun S_3 => ?_)
    refine qr_aload_n (n := 42) 0 (dkX12_read (i := 23) rfl) rfl rfl ?_
    refine qr_cvu (n := 45) 0 [] (dkX12_read (i := 24) rfl) rfl kvX12_236 rfl rfl (Nat.le_of_ble_eq_true rfl) rfl rfl lmO rfl (wX12_cut G S_3) (fun S_4 => ?_)
    refine qr_aload_n (n := 46) 0 (dkX12_read (i := 25) rfl) rfl rfl ?_
    refine qr_iconst (n := 47) 0 (dkX12_read (i := 26) rfl) rfl (by decide) ?_
    refine qr_puti (n := 50) 0 11 (dkX12_read (i := 27) rfl) rfl lmO rfl gnX12 (Nat.le_of_ble_eq_true rfl) kfX12_215 rfl tyX12_ok nmX12 rfl rfl (fun S_5 => ?_)
    refine qr_aload_n (n := 51) 0 (dkX12_read (i := 28) rfl) rfl rfl ?_
    refine qr_iconst (n := 52) 0 (dkX12_read (i := 29) rfl) rfl (by decide) ?_
    refine qr_puti (n := 55) 0 12 (dkX12_read (i := 30) rfl) rfl lmO rfl gnX12 (Nat.le_of_ble_eq_true rfl) kfX12_239 rfl tyX12_ok nmX12 rfl rfl (fun S_6 => ?_)
    refine qr_aload_n (n := 56) 0 (dkX12_read (i := 31) rfl) rfl rfl ?_
    refine qr_iconst (n := 57) 0 (dkX12_read (i := 32) rfl) rfl (by decide) ?_
    refine qr_puti (n := 60) 0 13 (dkX12_read (i := 33) rfl) rfl lmO rfl gnX12 (Nat.le_of_ble_eq_true rfl) kfX12_212 rfl tyX12_ok nmX12 rfl rfl (fun S_7 => ?_)
    refine qr_aload_n (n := 61) 0 (dkX12_read (i := 34) rfl) rfl rfl ?_
    refine qr_iconst (n := 62) 0 (dkX12_read (i := 35) rfl) rfl (by decide) ?_
    refine qr_puti (n := 65) 0 15 (dkX12_read (i := 36) rfl) rfl lmO rfl gnX12 (Nat.le_of_ble_eq_true rfl) kfX12_221 rfl tyX12_ok nmX12 rfl rfl (fun S_8 => ?_)
    refine qr_aload_n (n := 66) 0 (dkX12_read (i := 37) rfl) rfl rfl ?_
    refine qr_iconst (n := 67) 1 (dkX12_read (i := 38) rfl) rfl (by decide) ?_
    refine qr_aload_n (n := 68) 0 (dkX12_read (i := 39) rfl) rfl rfl ?_
    refine qr_geti (n := 71) 0 18 (dkX12_read (i := 40) rfl) rfl lmO rfl gnX12 (Nat.le_of_ble_eq_true rfl) kfX12_242 rfl ?_
    refine qr_isub (n := 72) (dkX12_read (i := 41) rfl) rfl ?_
    refine qr_puti (n := 75) 0 19 (dkX12_read (i := 42) rfl) rfl lmO rfl gnX12 (Nat.le_of_ble_eq_true rfl) kfX12_245 rfl tyX12_ok nmX12 rfl rfl (fun S_9 => ?_)
    refine qr_aload_n (n := 76) 0 (dkX12_read (i := 43) rfl) rfl rfl ?_
    refine qr_iconst (n := 77) 0 (dkX12_read (i := 44) rfl) rfl (by decide) ?_
    refine qr_puti (n := 80) 0 20 (dkX12_read (i := 45) rfl) rfl lmO rfl gnX12 (Nat.le_of_ble_eq_true rfl) kfX12_248 rfl tyX12_ok nmX12 rfl rfl (fun S_10 => ?_)
    refine qr_aload_n (n := 81) 0 (dkX12_read (i := 46) rfl) rfl rfl ?_
    refine qr_aload_n (n := 82) 0 (dkX12_read (i := 47) rfl) rfl rfl ?_
    refine qr_geti (n := 85) 0 19 (dkX12_read (i := 48) rfl) rfl lmO rfl gnX12 (Nat.le_of_ble_eq_true rfl) kfX12_245 rfl ?_
    refine qr_cvu (n := 88) 0 [.int (S_10.1 0 19)] (dkX12_read (i := 49) rfl) rfl kvX12_161 rfl rfl (Nat.le_of_ble_eq_true rfl) rfl rfl lmO rfl (wX12_plain G S_10 (S_10.1 0 19)) (fun S_11 => ?_)
    refine qr_aload_n (n := 89) 0 (dkX12_read (i := 50) rfl) rfl rfl ?_
    refine qr_sipush (n := 92) 130 (dkX12_read (i := 51) rfl) rfl (by decide) ?_
    refine qr_aload_n (n := 93) 0 (dkX12_read (i := 52) rfl) rfl rfl ?_
    refine qr_geti (n := 96) 0 19 (dkX12_read (i := 53) rfl) rfl lmO rfl gnX12 (Nat.le_of_ble_eq_true rfl) kfX12_245 rfl ?_
    refine qr_imul (n := 97) (dkX12_read (i := 54) rfl) rfl ?_
    refine qr_puti (n := 100) 0 39 (dkX12_read (i := 55) rfl) rfl lmO rfl gnX12 (Nat.le_of_ble_eq_true rfl) kfX12_251 rfl tyX12_ok nmX12 rfl rfl (fun S_12 => ?_)
    refine qr_aload_n (n := 101) 0 (dkX12_read (i := 56) rfl) rfl rfl ?_
    refine qr_sipush (n := 104) 420 (dkX12_read (i := 57) rfl) rfl (by decide) ?_
    refine qr_aload_n (n := 105) 0 (dkX12_read (i := 58) rfl) rfl rfl ?_
    refine qr_geti (n := 108) 0 19 (dkX12_read (i := 59) rfl) rfl lmO rfl gnX12 (Nat.le_of_ble_eq_true rfl) kfX12_245 rfl ?_
    refine qr_imul (n := 109) (dkX12_read (i := 60) rfl) rfl ?_
    refine qr_puti (n := 112) 0 45 (dkX12_read (i := 61) rfl) rfl lmO rfl gnX12 (Nat.le_of_ble_eq_true rfl) kfX12_254 rfl tyX12_ok nmX12 rfl rfl (fun S_13 => ?_)
    refine qr_j (fun K_2 : qv_St → Option (qv_St × Int32) => ∀ (S_14 : qv_St), VV G Lm X RX12 cX12_read 2 (some .int) 8 qe_m 134 [(0, .ref (G.2.2.1 0))] [] S_14 (K_2 S_14)) (fun S_14 => ?_) (fun K_2 hK_2 => ?_)
    · refine qr_aload_n (n := 135) 0 (dkX12_read (i := 72) rfl) rfl rfl ?_
      refine qr_aload_n (n := 136) 0 (dkX12_read (i := 73) rfl) rfl rfl ?_
      refine qr_geti (n := 139) 0 13 (dkX12_read (i := 74) rfl) rfl lmO rfl gnX12 (Nat.le_of_ble_eq_true rfl) kfX12_212 rfl ?_
      refine qr_j (fun K_3 : Int32 → Option (qv_St × Int32) => ∀ (t_1 : Int32), VV G Lm X RX12 cX12_read 2 (some .int) 8 qe_m 164 [(0, .ref (G.2.2.1 0))] [.int t_1, .ref (G.2.2.1 0)] S_14 (K_3 t_1)) (fun t_1 => ?_) (fun K_3 hK_3 => ?_)
      · refine qr_puti (n := 167) 0 17 (dkX12_read (i := 86) rfl) rfl lmO rfl gnX12 (Nat.le_of_ble_eq_true rfl) kfX12_37 rfl tyX12_ok nmX12 rfl rfl (fun S_15 => ?_)
        refine qr_aload_n (n := 168) 0 (dkX12_read (i := 87) rfl) rfl rfl ?_
        refine qr_geti (n := 171) 0 13 (dkX12_read (i := 88) rfl) rfl lmO rfl gnX12 (Nat.le_of_ble_eq_true rfl) kfX12_212 rfl ?_
        refine qr_if_le (t := 179) (n := 174) (dkX12_read (i := 89) rfl) (by decide) rfl ?_ ?_
        · refine qr_aload_n (n := 180) 0 (dkX12_read (i := 93) rfl) rfl rfl ?_
          refine qr_geti (n := 183) 0 15 (dkX12_read (i := 94) rfl) rfl lmO rfl gnX12 (Nat.le_of_ble_eq_true rfl) kfX12_221 rfl ?_
          refine qr_if_le (t := 191) (n := 186) (dkX12_read (i := 95) rfl) (by decide) rfl ?_ ?_
          · refine qr_aload_n (n := 192) 0 (dkX12_read (i := 99) rfl) rfl rfl ?_
            refine qr_aload_n (n := 193) 0 (dkX12_read (i := 100) rfl) rfl rfl ?_
            refine qr_geti (n := 196) 0 19 (dkX12_read (i := 101) rfl) rfl lmO rfl gnX12 (Nat.le_of_ble_eq_true rfl) kfX12_245 rfl ?_
            refine qr_puti (n := 199) 0 18 (dkX12_read (i := 102) rfl) rfl lmO rfl gnX12 (Nat.le_of_ble_eq_true rfl) kfX12_242 rfl tyX12_ok nmX12 rfl rfl (fun S_16 => ?_)
            refine qr_aload_n (n := 200) 0 (dkX12_read (i := 103) rfl) rfl rfl ?_
            refine qr_cvu (n := 203) 0 [] (dkX12_read (i := 104) rfl) rfl kvX12_169 rfl rfl (Nat.le_of_ble_eq_true rfl) rfl rfl lmO rfl (wX12_begins G S_16) (fun S_17 => ?_)
            refine qr_aload_n (n := 204) 0 (dkX12_read (i := 105) rfl) rfl rfl ?_
            refine qr_cvu (n := 207) 0 [] (dkX12_read (i := 106) rfl) rfl kvX12_172 rfl rfl (Nat.le_of_ble_eq_true rfl) rfl rfl lmO rfl (wX12_keepsRow G S_17) (fun S_18 => ?_)
            refine qr_aload_n (n := 208) 0 (dkX12_read (i := 107) rfl) rfl rfl ?_
            refine qr_iconst (n := 209) 0 (dkX12_read (i := 108) rfl) rfl (by decide) ?_
            refine qr_puti (n := 212) 0 57 (dkX12_read (i := 109) rfl) rfl lmO rfl gnX12 (Nat.le_of_ble_eq_true rfl) kfX12_260 rfl tyX12_ok nmX12 rfl rfl (fun S_19 => ?_)
            refine qr_aload_n (n := 213) 0 (dkX12_read (i := 110) rfl) rfl rfl ?_
            refine qr_iconst (n := 214) 0 (dkX12_read (i := 111) rfl) rfl (by decide) ?_
            refine qr_puti (n := 217) 0 65 (dkX12_read (i := 112) rfl) rfl lmO rfl gnX12 (Nat.le_of_ble_eq_true rfl) kfX12_263 rfl tyX12_ok nmX12 rfl rfl (fun S_20 => ?_)
            refine qr_iconst (n := 218) 0 (dkX12_read (i := 113) rfl) rfl (by decide) ?_
            refine qr_istore_n (n := 219) (lv2 := [(0, .ref (G.2.2.1 0)), (1, .int 0)]) [1, 0] (dkX12_read (i := 114) rfl) rfl rfl (by decide) rfl ?_
            refine qr_lp2 (fun (S_21 : qv_St) (x1_1 : Int32) => [(0, .ref (G.2.2.1 0)), (1, .int x1_1)]) (fun (S_21 : qv_St) (x1_1 : Int32) => S_21) (fun self_1 hself_1 S_21 x1_1 => ?_) qv_N S_20 0
            refine qr_iload_n (n := 220) 1 (dkX12_read (i := 115) rfl) rfl rfl ?_
            refine qr_iconst (n := 221) 3 (dkX12_read (i := 116) rfl) rfl (by decide) ?_
            refine qr_icmp_ge (t := 237) (n := 224) (dkX12_read (i := 117) rfl) (by decide) rfl ?_ ?_
            · refine qr_iconst (n := 238) 0 (dkX12_read (i := 125) rfl) rfl (by decide) ?_
              exact qr_iret (dkX12_read (i := 126) rfl) rfl rfl
            · refine qr_aload_n (n := 225) 0 (dkX12_read (i := 118) rfl) rfl rfl ?_
              refine qr_geta (n := 228) 0 69 46 (dkX12_read (i := 119) rfl) rfl lmO rfl gnX12 (Nat.le_of_ble_eq_true rfl) kfX12_155 rfl ?_
              refine qr_iload_n (n := 229) 1 (dkX12_read (i := 120) rfl) rfl rfl ?_
              refine qr_iconst (n := 230) 0 (dkX12_read (i := 121) rfl) rfl (by decide) ?_
              refine qr_zast (n := 231) 46 3 (dkX12_read (i := 122) rfl) rfl lmA_46 (fun S_22 => ?_)
              refine qr_iinc (n := 234) (v := 1) (lv2 := [(0, .ref (G.2.2.1 0)), (1, .int (x1_1 + 1))]) 1 [1, 0] (dkX12_read (i := 123) rfl) rfl rfl (by decide) (by decide) rfl ?_
              refine qr_goto (n := 219) (dkX12_read (i := 124) rfl) (by decide) ?_
              exact hself_1 S_22 (x1_1 + 1)
          · refine qr_aload_n (n := 187) 0 (dkX12_read (i := 96) rfl) rfl rfl ?_
            refine qr_geti (n := 190) 0 15 (dkX12_read (i := 97) rfl) rfl lmO rfl gnX12 (Nat.le_of_ble_eq_true rfl) kfX12_221 rfl ?_
            exact qr_iret (dkX12_read (i := 98) rfl) rfl rfl
        · refine qr_aload_n (n := 175) 0 (dkX12_read (i := 90) rfl) rfl rfl ?_
          refine qr_geti (n := 178) 0 13 (dkX12_read (i := 91) rfl) rfl lmO rfl gnX12 (Nat.le_of_ble_eq_true rfl) kfX12_212 rfl ?_
          exact qr_iret (dkX12_read (i := 92) rfl) rfl rfl
      · refine qr_if_le (t := 149) (n := 142) (dkX12_read (i := 75) rfl) (by decide) rfl ?_ ?_
        · refine qr_aload_n (n := 150) 0 (dkX12_read (i := 79) rfl) rfl rfl ?_
          refine qr_geti (n := 153) 0 15 (dkX12_read (i := 80) rfl) rfl lmO rfl gnX12 (Nat.le_of_ble_eq_true rfl) kfX12_221 rfl ?_
          refine qr_if_le (t := 163) (n := 156) (dkX12_read (i := 81) rfl) (by decide) rfl ?_ ?_
          · refine qr_iconst (n := 164) (-1) (dkX12_read (i := 85) rfl) rfl (by decide) ?_
            exact hK_3 (-1)
          · refine qr_aload_n (n := 157) 0 (dkX12_read (i := 82) rfl) rfl rfl ?_
            refine qr_geti (n := 160) 0 16 (dkX12_read (i := 83) rfl) rfl lmO rfl gnX12 (Nat.le_of_ble_eq_true rfl) kfX12_224 rfl ?_
            refine qr_goto (n := 164) (dkX12_read (i := 84) rfl) (by decide) ?_
            exact hK_3 (S_14.1 0 16)
        · refine qr_aload_n (n := 143) 0 (dkX12_read (i := 76) rfl) rfl rfl ?_
          refine qr_geti (n := 146) 0 14 (dkX12_read (i := 77) rfl) rfl lmO rfl gnX12 (Nat.le_of_ble_eq_true rfl) kfX12_218 rfl ?_
          refine qr_goto (n := 164) (dkX12_read (i := 78) rfl) (by decide) ?_
          exact hK_3 (S_14.1 0 14)
    · refine qr_lp1 (fun (S_23 : qv_St) => [(0, .ref (G.2.2.1 0))]) (fun (S_23 : qv_St) => S_23) (fun self_2 hself_2 S_23 => ?_) qv_N S_13
      refine qr_aload_n (n := 113) 0 (dkX12_read (i := 62) rfl) rfl rfl ?_
      refine qr_geti (n := 116) 0 13 (dkX12_read (i := 63) rfl) rfl lmO rfl gnX12 (Nat.le_of_ble_eq_true rfl) kfX12_212 rfl ?_
      refine qr_if_ne (t := 134) (n := 119) (dkX12_read (i := 64) rfl) (by decide) rfl ?_ ?_
      · exact hK_2 S_23
      · refine qr_aload_n (n := 120) 0 (dkX12_read (i := 65) rfl) rfl rfl ?_
        refine qr_iconst (n := 121) 0 (dkX12_read (i := 66) rfl) rfl (by decide) ?_
        refine qr_cvi (n := 124) 0 [.int 0] (dkX12_read (i := 67) rfl) rfl kvX12_230 rfl rfl (Nat.le_of_ble_eq_true rfl) rfl rfl lmO rfl (wX12_is G S_23 0) (fun r_1 => ?_)
        refine qr_if_ne (t := 134) (n := 127) (dkX12_read (i := 68) rfl) (by decide) rfl ?_ ?_
        · exact hK_2 S_23
        · refine qr_aload_n (n := 128) 0 (dkX12_read (i := 69) rfl) rfl rfl ?_
          refine qr_cvu (n := 131) 0 [] (dkX12_read (i := 70) rfl) rfl kvX12_257 rfl rfl (Nat.le_of_ble_eq_true rfl) rfl rfl lmO rfl (wX12_tellOne G S_23) (fun S_24 => ?_)
          refine qr_goto (n := 112) (dkX12_read (i := 71) rfl) (by decide) ?_
          exact hself_2 S_24
  · refine qr_lp2 (fun (S_25 : qv_St) (x1_2 : Int32) => [(0, .ref (G.2.2.1 0)), (1, .int x1_2)]) (fun (S_25 : qv_St) (x1_2 : Int32) => S_25) (fun self_3 hself_3 S_25 x1_2 => ?_) qv_N S_1 0
    refine qr_iload_n (n := 11) 1 (dkX12_read (i := 6) rfl) rfl rfl ?_
    refine qr_aload_n (n := 12) 0 (dkX12_read (i := 7) rfl) rfl rfl ?_
    refine qr_geti (n := 15) 0 4 (dkX12_read (i := 8) rfl) rfl lmO rfl gnX12 (Nat.le_of_ble_eq_true rfl) kfX12_181 rfl ?_
    refine qr_icmp_ge (t := 36) (n := 18) (dkX12_read (i := 9) rfl) (by decide) rfl ?_ ?_
    · refine qr_sub [0] rfl ?_
      exact hK_1 S_25
    · refine qr_aload_n (n := 19) 0 (dkX12_read (i := 10) rfl) rfl rfl ?_
      refine qr_geta (n := 22) 0 3 2 (dkX12_read (i := 11) rfl) rfl lmO rfl gnX12 (Nat.le_of_ble_eq_true rfl) kfX12_17 rfl ?_
      refine qr_iload_n (n := 23) 1 (dkX12_read (i := 12) rfl) rfl rfl ?_
      refine qr_aload_n (n := 24) 0 (dkX12_read (i := 13) rfl) rfl rfl ?_
      refine qr_geta (n := 27) 0 1 1 (dkX12_read (i := 14) rfl) rfl lmO rfl gnX12 (Nat.le_of_ble_eq_true rfl) kfX12_13 rfl ?_
      refine qr_iload_n (n := 28) 1 (dkX12_read (i := 15) rfl) rfl rfl ?_
      refine qr_bald (n := 29) 1 2000 (dkX12_read (i := 16) rfl) rfl lmA_1 ?_
      refine qr_bast (n := 30) 2 2000 (dkX12_read (i := 17) rfl) rfl lmA_2 (fun S_26 => ?_)
      refine qr_iinc (n := 33) (v := 1) (lv2 := [(0, .ref (G.2.2.1 0)), (1, .int (x1_2 + 1))]) 1 [1, 0] (dkX12_read (i := 18) rfl) rfl rfl (by decide) (by decide) rfl ?_
      refine qr_goto (n := 10) (dkX12_read (i := 19) rfl) (by decide) ?_
      exact hself_3 S_26 (x1_2 + 1)
def tbX12_place : List (Nat × Instr × Nat) := [(0, .aload_n 0, 1), (1, .getfield 37, 3), (4, .ireturn, 1)]
set_option maxRecDepth 20000 in
theorem daX12_place : ∀ x ∈ tbX12_place, decode cX12_place x.1 = .ok x.2 := by decide +kernel
theorem dkX12_place {i pc n : Nat} {ins : Instr} (h : tbX12_place[i]? = some (pc, ins, n)) : decode cX12_place pc = .ok (ins, n) := daX12_place (pc, ins, n) (List.mem_of_getElem? h)
def fX12_place (S0 : qv_St) : Option Int32 :=
  some (S0.1 0 17)
set_option maxRecDepth 20000 in
set_option maxHeartbeats 4000000 in
theorem wX12_place (G : qv_GT) (S0 : qv_St) : ∀ r, fX12_place S0 = some r → Cn G Lm yX12_place cX12_place 1 (some .int) 1 [.ref (G.2.2.1 0)] S0 ((qe_i S0) r) := by
  refine cn_of (own := RX12) (emb := (qe_i S0)) (lv := [(0, .ref (G.2.2.1 0))]) rfl rfl (Nat.le_of_ble_eq_true rfl) rfl (fun X => ?_)
  unfold fX12_place
  refine qr_aload_n (n := 1) 0 (dkX12_place (i := 0) rfl) rfl rfl ?_
  refine qr_geti (n := 4) 0 17 (dkX12_place (i := 1) rfl) rfl lmO rfl gnX12 (Nat.le_of_ble_eq_true rfl) kfX12_37 rfl ?_
  exact qr_iret (dkX12_place (i := 2) rfl) rfl rfl
def tbX12_termOf : List (Nat × Instr × Nat) := [(0, .iconst 0, 1), (1, .istore_n 3, 1), (2, .iload_n 1, 1), (3, .istore 4, 2), (5, .iload 4, 2), (7, .iload_n 2, 1), (8, .if_icmp .ge 157, 3), (11, .aload_n 0, 1), (12, .getfield 110, 3), (15, .iload 4, 2), (17, .iaload, 1), (18, .istore 5, 2), (20, .iload 5, 2), (22, .iconst 2, 1), (23, .if_icmp .ge 42, 3), (26, .aload_n 0, 1), (27, .getfield 122, 3), (30, .iload_n 3, 1), (31, .iload 5, 2), (33, .ifCond .ne 13, 3), (36, .aload_n 0, 1), (37, .getfield 113, 3), (40, .iload 4, 2), (42, .iaload, 1), (43, .goto 15, 3), (46, .aload_n 0, 1), (47, .getfield 119, 3), (50, .aload_n 0, 1), (51, .getfield 113, 3), (54, .iload 4, 2), (56, .iaload, 1), (57, .iaload, 1), (58, .iastore, 1), (59, .iinc 3 1, 3), (62, .goto 97, 3), (65, .iinc 3 (-1), 3), (68, .aload_n 0, 1), (69, .getfield 122, 3), (72, .iload_n 3, 1), (73, .iconst 1, 1), (74, .isub, 1), (75, .iaload, 1), (76, .istore 6, 2), (78, .aload_n 0, 1), (79, .getfield 122, 3), (82, .iload_n 3, 1), (83, .iaload, 1), (84, .istore 7, 2), (86, .iload 5, 2), (88, .iconst 5, 1), (89, .if_icmp .ne 15, 3), (92, .iload 7, 2), (94, .ifCond .ne 10, 3), (97, .aload_n 0, 1), (98, .iconst 1, 1), (99, .putfield 315, 3), (102, .iconst 0, 1), (103, .ireturn, 1), (104, .aload_n 0, 1), (105, .getfield 122, 3), (108, .iload_n 3, 1), (109, .iconst 1, 1), (110, .isub, 1), (111, .iload 5, 2), (113, .iconst 2, 1), (114, .if_icmp .ne 11, 3), (117, .iload 6, 2), (119, .iload 7, 2), (121, .iadd, 1), (122, .goto 36, 3), (125, .iload 5, 2), (127, .iconst 3, 1), (128, .if_icmp .ne 11, 3), (131, .iload 6, 2), (133, .iload 7, 2), (135, .isub, 1), (136, .goto 22, 3), (139, .iload 5, 2), (141, .iconst 4, 1), (142, .if_icmp .ne 11, 3), (145, .iload 6, 2), (147, .iload 7, 2), (149, .imul, 1), (150, .goto 8, 3), (153, .iload 6, 2), (155, .iload 7, 2), (157, .idiv, 1), (158, .iastore, 1), (159, .iinc 4 1, 3), (162, .goto (-157), 3), (165, .aload_n 0, 1), (166, .getfield 122, 3), (169, .iconst 0, 1), (170, .iaload, 1), (171, .ireturn, 1)]
set_option maxRecDepth 20000 in
theorem daX12_termOf : ∀ x ∈ tbX12_termOf, decode cX12_termOf x.1 = .ok x.2 := by decide +kernel
theorem dkX12_termOf {i pc n : Nat} {ins : Instr} (h : tbX12_termOf[i]? = some (pc, ins, n)) : decode cX12_termOf pc = .ok (ins, n) := daX12_termOf (pc, ins, n) (List.mem_of_getElem? h)
def fX12_termOf (S0 : qv_St) (x1 : Int32) (x2 : Int32) : Option (qv_St × Int32) :=
  qv_j (fun (S_1 : qv_St) =>
    qv_ck 0 400 <|
    some (S_1, (S_1.1 35 (Int32.toNatClampNeg 0)))) fun K_1 =>
  qv_j (fun (S_2 : qv_St) =>
    qv_b (qv_si S_2 0 52 1) fun S_3 =>
    some (S_3, 0)) fun K_2 =>
  qv_lp3 qv_N (fun self_1 (S_4 : qv_St) (x3_1 : Int32) (x4_1 : Int32) =>
    if x2 ≤ x4_1 then
      K_1 S_4
    else
      qv_ck x4_1 840 <|
      qv_b ((S_4.1 31 (Int32.toNatClampNeg x4_1)) : Int32) fun x5_1 =>
      qv_j (fun (S_5 : qv_St) (x3_2 : Int32) =>
        self_1 S_5 x3_2 (x4_1 + 1)) fun K_3 =>
      if 2 ≤ x5_1 then
        qv_ck ((x3_1 + (-1)) - 1) 400 <|
        qv_b ((S_4.1 35 (Int32.toNatClampNeg ((x3_1 + (-1)) - 1))) : Int32) fun x6_1 =>
        qv_ck (x3_1 + (-1)) 400 <|
        qv_b ((S_4.1 35 (Int32.toNatClampNeg (x3_1 + (-1)))) : Int32) fun x7_1 =>
        qv_j (
          qv_j (fun (t_1 : Int32) =>
            qv_ck ((x3_1 + (-1)) - 1) 400 <| qv_b (qv_si S_4 35 (Int32.toNatClampNeg ((x3_1 + (-1)) - 1)) t_1) fun S_6 =>
            K_3 S_6 (x3_1 + (-1))) fun K_5 =>
          if x5_1 = 2 then
            K_5 (x6_1 + x7_1)
          else
            if x5_1 = 3 then
              K_5 (x6_1 - x7_1)
            else
              if x5_1 = 4 then
                K_5 (x6_1 * x7_1)
              else
                qv_nz x7_1 <|
                K_5 (x6_1 / x7_1)) fun K_4 =>
        if x5_1 = 5 then
          if x7_1 = 0 then
            K_2 S_4
          else
            K_4
        else
          K_4
      else
        qv_j (fun (t_2 : Int32) =>
          qv_ck x3_1 400 <| qv_b (qv_si S_4 35 (Int32.toNatClampNeg x3_1) t_2) fun S_7 =>
          K_3 S_7 (x3_1 + 1)) fun K_6 =>
        if x5_1 = 0 then
          qv_ck x4_1 840 <|
          K_6 (S_4.1 32 (Int32.toNatClampNeg x4_1))
        else
          qv_ck x4_1 840 <|
          qv_ck (S_4.1 32 (Int32.toNatClampNeg x4_1)) 9 <|
          K_6 (S_4.1 34 (Int32.toNatClampNeg (S_4.1 32 (Int32.toNatClampNeg x4_1))))) S0 0 x1
set_option maxRecDepth 20000 in
set_option maxHeartbeats 4000000 in
theorem wX12_termOf (G : qv_GT) (S0 : qv_St) (x1 : Int32) (x2 : Int32) : ∀ r, fX12_termOf S0 x1 x2 = some r → Cn G Lm yX12_termOf cX12_termOf 8 (some .int) 1 [.ref (G.2.2.1 0), .int x1, .int x2] S0 (qe_m r) := by
  refine cn_of (own := RX12) (emb := qe_m) (lv := [(0, .ref (G.2.2.1 0)), (1, .int x1), (2, .int x2)]) rfl rfl (Nat.le_of_ble_eq_true rfl) rfl (fun X => ?_)
  unfold fX12_termOf
  refine qr_iconst (n := 1) 0 (dkX12_termOf (i := 0) rfl) rfl (by decide) ?_
  refine qr_istore_n (n := 2) (lv2 := [(0, .ref (G.2.2.1 0)), (1, .int x1), (2, .int x2), (3, .int 0)]) [1, 2, 3, 0] (dkX12_termOf (i := 1) rfl) rfl rfl (by decide) rfl ?_
  refine qr_iload_n (n := 3) 1 (dkX12_termOf (i := 2) rfl) rfl rfl ?_
  refine qr_istore (n := 5) (lv2 := [(0, .ref (G.2.2.1 0)), (1, .int x1), (2, .int x2), (3, .int 0), (4, .int x1)]) [1, 2, 3, 4, 0] (dkX12_termOf (i := 3) rfl) rfl (by decide) rfl ?_
  refine qr_sub [0, 2, 3, 4] rfl ?_
  refine qr_j (fun K_1 : qv_St → Option (qv_St × Int32) => ∀ (S_1 : qv_St), VV G Lm X RX12 cX12_termOf 8 (some .int) 1 qe_m 165 [(0, .ref (G.2.2.1 0))] [] S_1 (K_1 S_1)) (fun S_1 => ?_) (fun K_1 hK_1 => ?_)
  · refine qr_aload_n (n := 166) 0 (dkX12_termOf (i := 90) rfl) rfl rfl ?_
    refine qr_geta (n := 169) 0 51 35 (dkX12_termOf (i := 91) rfl) rfl lmO rfl gnX12 (Nat.le_of_ble_eq_true rfl) kfX12_122 rfl ?_
    refine qr_iconst (n := 170) 0 (dkX12_termOf (i := 92) rfl) rfl (by decide) ?_
    refine qr_iald (n := 171) 35 400 (dkX12_termOf (i := 93) rfl) rfl lmA_35 ?_
    exact qr_iret (dkX12_termOf (i := 94) rfl) rfl rfl
  · refine qr_j (fun K_2 : qv_St → Option (qv_St × Int32) => ∀ (S_2 : qv_St), VV G Lm X RX12 cX12_termOf 8 (some .int) 1 qe_m 97 [(0, .ref (G.2.2.1 0))] [] S_2 (K_2 S_2)) (fun S_2 => ?_) (fun K_2 hK_2 => ?_)
    · refine qr_aload_n (n := 98) 0 (dkX12_termOf (i := 53) rfl) rfl rfl ?_
      refine qr_iconst (n := 99) 1 (dkX12_termOf (i := 54) rfl) rfl (by decide) ?_
      refine qr_putz (n := 102) 0 52 (dkX12_termOf (i := 55) rfl) rfl lmO rfl gnX12 (Nat.le_of_ble_eq_true rfl) kfX12_315 rfl tyX12_ok nmX12 rfl rfl (by decide) (fun S_3 => ?_)
      refine qr_iconst (n := 103) 0 (dkX12_termOf (i := 56) rfl) rfl (by decide) ?_
      exact qr_iret (dkX12_termOf (i := 57) rfl) rfl rfl
    · refine qr_lp3 (fun (S_4 : qv_St) (x3_1 : Int32) (x4_1 : Int32) => [(0, .ref (G.2.2.1 0)), (2, .int x2), (3, .int x3_1), (4, .int x4_1)]) (fun (S_4 : qv_St) (x3_1 : Int32) (x4_1 : Int32) => S_4) (fun self_1 hself_1 S_4 x3_1 x4_1 => ?_) qv_N S0 0 x1
      refine qr_iload (n := 7) 3 (dkX12_termOf (i := 4) rfl) rfl rfl ?_
      refine qr_iload_n (n := 8) 1 (dkX12_termOf (i := 5) rfl) rfl rfl ?_
      refine qr_icmp_ge (t := 165) (n := 11) (dkX12_termOf (i := 6) rfl) (by decide) rfl ?_ ?_
      · refine qr_sub [0] rfl ?_
        exact hK_1 S_4
      · refine qr_aload_n (n := 12) 0 (dkX12_termOf (i := 7) rfl) rfl rfl ?_
        refine qr_geta (n := 15) 0 46 31 (dkX12_termOf (i := 8) rfl) rfl lmO rfl gnX12 (Nat.le_of_ble_eq_true rfl) kfX12_110 rfl ?_
        refine qr_iload (n := 17) 3 (dkX12_termOf (i := 9) rfl) rfl rfl ?_
        refine qr_iald (n := 18) 31 840 (dkX12_termOf (i := 10) rfl) rfl lmA_31 ?_
        refine qr_b (α := Int32) (S_4.1 31 (Int32.toNatClampNeg x4_1)) (lvf := fun _ => [(0, .ref (G.2.2.1 0)), (2, .int x2), (3, .int x3_1), (4, .int x4_1)]) (stf := fun z => .int z :: []) (Sf := fun _ => S_4) (fun x5_1 => ?_)
        refine qr_istore (n := 20) (lv2 := [(0, .ref (G.2.2.1 0)), (2, .int x2), (3, .int x3_1), (4, .int x4_1), (5, .int x5_1)]) [1, 2, 3, 4, 0] (dkX12_termOf (i := 11) rfl) rfl (by decide) rfl ?_
        refine qr_iload (n := 22) 4 (dkX12_termOf (i := 12) rfl) rfl rfl ?_
        refine qr_iconst (n := 23) 2 (dkX12_termOf (i := 13) rfl) rfl (by decide) ?_
        refine qr_j (fun K_3 : qv_St → Int32 → Option (qv_St × Int32) => ∀ (S_5 : qv_St) (x3_2 : Int32), VV G Lm X RX12 cX12_termOf 8 (some .int) 1 qe_m 159 [(0, .ref (G.2.2.1 0)), (2, .int x2), (3, .int x3_2), (4, .int x4_1)] [] S_5 (K_3 S_5 x3_2)) (fun S_5 x3_2 => ?_) (fun K_3 hK_3 => ?_)
        · refine qr_iinc (n := 162) (v := 1) (lv2 := [(0, .ref (G.2.2.1 0)), (2, .int x2), (3, .int x3_2), (4, .int (x4_1 + 1))]) 3 [1, 2, 3, 0] (dkX12_termOf (i := 88) rfl) rfl rfl (by decide) (by decide) rfl ?_
          refine qr_goto (n := 5) (dkX12_termOf (i := 89) rfl) (by decide) ?_
          exact hself_1 S_5 x3_2 (x4_1 + 1)
        · refine qr_icmp_ge (t := 65) (n := 26) (dkX12_termOf (i := 14) rfl) (by decide) rfl ?_ ?_
          · refine qr_iinc (n := 68) (v := (-1)) (lv2 := [(0, .ref (G.2.2.1 0)), (2, .int x2), (3, .int (x3_1 + (-1))), (4, .int x4_1), (5, .int x5_1)]) 2 [1, 2, 0, 3, 4] (dkX12_termOf (i := 35) rfl) rfl rfl (by decide) (by decide) rfl ?_
            refine qr_aload_n (n := 69) 0 (dkX12_termOf (i := 36) rfl) rfl rfl ?_
            refine qr_geta (n := 72) 0 51 35 (dkX12_termOf (i := 37) rfl) rfl lmO rfl gnX12 (Nat.le_of_ble_eq_true rfl) kfX12_122 rfl ?_
            refine qr_iload_n (n := 73) 2 (dkX12_termOf (i := 38) rfl) rfl rfl ?_
            refine qr_iconst (n := 74) 1 (dkX12_termOf (i := 39) rfl) rfl (by decide) ?_
            refine qr_isub (n := 75) (dkX12_termOf (i := 40) rfl) rfl ?_
            refine qr_iald (n := 76) 35 400 (dkX12_termOf (i := 41) rfl) rfl lmA_35 ?_
            refine qr_b (α := Int32) (S_4.1 35 (Int32.toNatClampNeg ((x3_1 + (-1)) - 1))) (lvf := fun _ => [(0, .ref (G.2.2.1 0)), (2, .int x2), (3, .int (x3_1 + (-1))), (4, .int x4_1), (5, .int x5_1)]) (stf := fun z => .int z :: []) (Sf := fun _ => S_4) (fun x6_1 => ?_)
            refine qr_istore (n := 78) (lv2 := [(0, .ref (G.2.2.1 0)), (2, .int x2), (3, .int (x3_1 + (-1))), (4, .int x4_1), (5, .int x5_1), (6, .int x6_1)]) [1, 2, 3, 4, 5, 0] (dkX12_termOf (i := 42) rfl) rfl (by decide) rfl ?_
            refine qr_aload_n (n := 79) 0 (dkX12_termOf (i := 43) rfl) rfl rfl ?_
            refine qr_geta (n := 82) 0 51 35 (dkX12_termOf (i := 44) rfl) rfl lmO rfl gnX12 (Nat.le_of_ble_eq_true rfl) kfX12_122 rfl ?_
            refine qr_iload_n (n := 83) 2 (dkX12_termOf (i := 45) rfl) rfl rfl ?_
            refine qr_iald (n := 84) 35 400 (dkX12_termOf (i := 46) rfl) rfl lmA_35 ?_
            refine qr_b (α := Int32) (S_4.1 35 (Int32.toNatClampNeg (x3_1 + (-1)))) (lvf := fun _ => [(0, .ref (G.2.2.1 0)), (2, .int x2), (3, .int (x3_1 + (-1))), (4, .int x4_1), (5, .int x5_1), (6, .int x6_1)]) (stf := fun z => .int z :: []) (Sf := fun _ => S_4) (fun x7_1 => ?_)
            refine qr_istore (n := 86) (lv2 := [(0, .ref (G.2.2.1 0)), (2, .int x2), (3, .int (x3_1 + (-1))), (4, .int x4_1), (5, .int x5_1), (6, .int x6_1), (7, .int x7_1)]) [1, 2, 3, 4, 5, 6, 0] (dkX12_termOf (i := 47) rfl) rfl (by decide) rfl ?_
            refine qr_iload (n := 88) 4 (dkX12_termOf (i := 48) rfl) rfl rfl ?_
            refine qr_iconst (n := 89) 5 (dkX12_termOf (i := 49) rfl) rfl (by decide) ?_
            refine qr_j (fun K_4 : Option (qv_St × Int32) => VV G Lm X RX12 cX12_termOf 8 (some .int) 1 qe_m 104 [(0, .ref (G.2.2.1 0)), (2, .int x2), (3, .int (x3_1 + (-1))), (4, .int x4_1), (5, .int x5_1), (6, .int x6_1), (7, .int x7_1)] [] S_4 (K_4)) (?_) (fun K_4 hK_4 => ?_)
            · refine qr_aload_n (n := 105) 0 (dkX12_termOf (i := 58) rfl) rfl rfl ?_
              refine qr_geta (n := 108) 0 51 35 (dkX12_termOf (i := 59) rfl) rfl lmO rfl gnX12 (Nat.le_of_ble_eq_true rfl) kfX12_122 rfl ?_
              refine qr_iload_n (n := 109) 2 (dkX12_termOf (i := 60) rfl) rfl rfl ?_
              refine qr_iconst (n := 110) 1 (dkX12_termOf (i := 61) rfl) rfl (by decide) ?_
              refine qr_isub (n := 111) (dkX12_termOf (i := 62) rfl) rfl ?_
              refine qr_iload (n := 113) 4 (dkX12_termOf (i := 63) rfl) rfl rfl ?_
              refine qr_iconst (n := 114) 2 (dkX12_termOf (i := 64) rfl) rfl (by decide) ?_
              refine qr_j (fun K_5 : Int32 → Option (qv_St × Int32) => ∀ (t_1 : Int32), VV G Lm X RX12 cX12_termOf 8 (some .int) 1 qe_m 158 [(0, .ref (G.2.2.1 0)), (2, .int x2), (3, .int (x3_1 + (-1))), (4, .int x4_1)] [.int t_1, .int ((x3_1 + (-1)) - 1), .ref (G.2.2.1 35)] S_4 (K_5 t_1)) (fun t_1 => ?_) (fun K_5 hK_5 => ?_)
              · refine qr_iast (n := 159) 35 400 (dkX12_termOf (i := 87) rfl) rfl lmA_35 (fun S_6 => ?_)
                exact hK_3 S_6 (x3_1 + (-1))
              · refine qr_icmp_ne (t := 125) (n := 117) (dkX12_termOf (i := 65) rfl) (by decide) rfl ?_ ?_
                · refine qr_iload (n := 127) 4 (dkX12_termOf (i := 70) rfl) rfl rfl ?_
                  refine qr_iconst (n := 128) 3 (dkX12_termOf (i := 71) rfl) rfl (by decide) ?_
                  refine qr_icmp_ne (t := 139) (n := 131) (dkX12_termOf (i := 72) rfl) (by decide) rfl ?_ ?_
                  · refine qr_iload (n := 141) 4 (dkX12_termOf (i := 77) rfl) rfl rfl ?_
                    refine qr_iconst (n := 142) 4 (dkX12_termOf (i := 78) rfl) rfl (by decide) ?_
                    refine qr_icmp_ne (t := 153) (n := 145) (dkX12_termOf (i := 79) rfl) (by decide) rfl ?_ ?_
                    · refine qr_iload (n := 155) 5 (dkX12_termOf (i := 84) rfl) rfl rfl ?_
                      refine qr_iload (n := 157) 6 (dkX12_termOf (i := 85) rfl) rfl rfl ?_
                      refine qr_idiv (n := 158) (dkX12_termOf (i := 86) rfl) rfl ?_
                      refine qr_sub [0, 1, 2, 3] rfl ?_
                      exact hK_5 (x6_1 / x7_1)
                    · refine qr_iload (n := 147) 5 (dkX12_termOf (i := 80) rfl) rfl rfl ?_
                      refine qr_iload (n := 149) 6 (dkX12_termOf (i := 81) rfl) rfl rfl ?_
                      refine qr_imul (n := 150) (dkX12_termOf (i := 82) rfl) rfl ?_
                      refine qr_goto (n := 158) (dkX12_termOf (i := 83) rfl) (by decide) ?_
                      refine qr_sub [0, 1, 2, 3] rfl ?_
                      exact hK_5 (x6_1 * x7_1)
                  · refine qr_iload (n := 133) 5 (dkX12_termOf (i := 73) rfl) rfl rfl ?_
                    refine qr_iload (n := 135) 6 (dkX12_termOf (i := 74) rfl) rfl rfl ?_
                    refine qr_isub (n := 136) (dkX12_termOf (i := 75) rfl) rfl ?_
                    refine qr_goto (n := 158) (dkX12_termOf (i := 76) rfl) (by decide) ?_
                    refine qr_sub [0, 1, 2, 3] rfl ?_
                    exact hK_5 (x6_1 - x7_1)
                · refine qr_iload (n := 119) 5 (dkX12_termOf (i := 66) rfl) rfl rfl ?_
                  refine qr_iload (n := 121) 6 (dkX12_termOf (i := 67) rfl) rfl rfl ?_
                  refine qr_iadd (n := 122) (dkX12_termOf (i := 68) rfl) rfl ?_
                  refine qr_goto (n := 158) (dkX12_termOf (i := 69) rfl) (by decide) ?_
                  refine qr_sub [0, 1, 2, 3] rfl ?_
                  exact hK_5 (x6_1 + x7_1)
            · refine qr_icmp_ne (t := 104) (n := 92) (dkX12_termOf (i := 50) rfl) (by decide) rfl ?_ ?_
              · exact hK_4
              · refine qr_iload (n := 94) 6 (dkX12_termOf (i := 51) rfl) rfl rfl ?_
                refine qr_if_ne (t := 104) (n := 97) (dkX12_termOf (i := 52) rfl) (by decide) rfl ?_ ?_
                · exact hK_4
                · refine qr_sub [0] rfl ?_
                  exact hK_2 S_4
          · refine qr_aload_n (n := 27) 0 (dkX12_termOf (i := 15) rfl) rfl rfl ?_
            refine qr_geta (n := 30) 0 51 35 (dkX12_termOf (i := 16) rfl) rfl lmO rfl gnX12 (Nat.le_of_ble_eq_true rfl) kfX12_122 rfl ?_
            refine qr_iload_n (n := 31) 2 (dkX12_termOf (i := 17) rfl) rfl rfl ?_
            refine qr_iload (n := 33) 4 (dkX12_termOf (i := 18) rfl) rfl rfl ?_
            refine qr_j (fun K_6 : Int32 → Option (qv_St × Int32) => ∀ (t_2 : Int32), VV G Lm X RX12 cX12_termOf 8 (some .int) 1 qe_m 58 [(0, .ref (G.2.2.1 0)), (2, .int x2), (3, .int x3_1), (4, .int x4_1)] [.int t_2, .int x3_1, .ref (G.2.2.1 35)] S_4 (K_6 t_2)) (fun t_2 => ?_) (fun K_6 hK_6 => ?_)
            · refine qr_iast (n := 59) 35 400 (dkX12_termOf (i := 32) rfl) rfl lmA_35 (fun S_7 => ?_)
              refine qr_iinc (n := 62) (v := 1) (lv2 := [(0, .ref (G.2.2.1 0)), (2, .int x2), (3, .int (x3_1 + 1)), (4, .int x4_1)]) 2 [1, 2, 0, 3] (dkX12_termOf (i := 33) rfl) rfl rfl (by decide) (by decide) rfl ?_
              refine qr_goto (n := 159) (dkX12_termOf (i := 34) rfl) (by decide) ?_
              exact hK_3 S_7 (x3_1 + 1)
            · refine qr_if_ne (t := 46) (n := 36) (dkX12_termOf (i := 19) rfl) (by decide) rfl ?_ ?_
              · refine qr_aload_n (n := 47) 0 (dkX12_termOf (i := 25) rfl) rfl rfl ?_
                refine qr_geta (n := 50) 0 50 34 (dkX12_termOf (i := 26) rfl) rfl lmO rfl gnX12 (Nat.le_of_ble_eq_true rfl) kfX12_119 rfl ?_
                refine qr_aload_n (n := 51) 0 (dkX12_termOf (i := 27) rfl) rfl rfl ?_
                refine qr_geta (n := 54) 0 47 32 (dkX12_termOf (i := 28) rfl) rfl lmO rfl gnX12 (Nat.le_of_ble_eq_true rfl) kfX12_113 rfl ?_
                refine qr_iload (n := 56) 3 (dkX12_termOf (i := 29) rfl) rfl rfl ?_
                refine qr_iald (n := 57) 32 840 (dkX12_termOf (i := 30) rfl) rfl lmA_32 ?_
                refine qr_iald (n := 58) 34 9 (dkX12_termOf (i := 31) rfl) rfl lmA_34 ?_
                refine qr_sub [0, 1, 2, 3] rfl ?_
                exact hK_6 (S_4.1 34 (Int32.toNatClampNeg (S_4.1 32 (Int32.toNatClampNeg x4_1))))
              · refine qr_aload_n (n := 37) 0 (dkX12_termOf (i := 20) rfl) rfl rfl ?_
                refine qr_geta (n := 40) 0 47 32 (dkX12_termOf (i := 21) rfl) rfl lmO rfl gnX12 (Nat.le_of_ble_eq_true rfl) kfX12_113 rfl ?_
                refine qr_iload (n := 42) 3 (dkX12_termOf (i := 22) rfl) rfl rfl ?_
                refine qr_iald (n := 43) 32 840 (dkX12_termOf (i := 23) rfl) rfl lmA_32 ?_
                refine qr_goto (n := 58) (dkX12_termOf (i := 24) rfl) (by decide) ?_
                refine qr_sub [0, 1, 2, 3] rfl ?_
                exact hK_6 (S_4.1 32 (Int32.toNatClampNeg x4_1))
def tbX12_in : List (Nat × Instr × Nat) := [(0, .iload_n 0, 1), (1, .iload_n 1, 1), (2, .if_icmp .lt 12, 3), (5, .iload_n 0, 1), (6, .iload_n 2, 1), (7, .if_icmp .gt 7, 3), (10, .iconst 1, 1), (11, .goto 4, 3), (14, .iconst 0, 1), (15, .ireturn, 1)]
set_option maxRecDepth 20000 in
theorem daX12_in : ∀ x ∈ tbX12_in, decode cX12_in x.1 = .ok x.2 := by decide +kernel
theorem dkX12_in {i pc n : Nat} {ins : Instr} (h : tbX12_in[i]? = some (pc, ins, n)) : decode cX12_in pc = .ok (ins, n) := daX12_in (pc, ins, n) (List.mem_of_getElem? h)
def fX12_in (x0 : Int32) (x1 : Int32) (x2 : Int32) : Option Int32 :=
  qv_j (
    some 0) fun K_1 =>
  if x0 < x1 then
    K_1
  else
    if x2 < x0 then
      K_1
    else
      some 1
set_option maxRecDepth 20000 in
set_option maxHeartbeats 4000000 in
theorem wX12_in (G : qv_GT) (S0 : qv_St) (x0 : Int32) (x1 : Int32) (x2 : Int32) : ∀ r, fX12_in x0 x1 x2 = some r → Cn G Lm yX12_in cX12_in 3 (some .boolean) 1 [.int x0, .int x1, .int x2] S0 ((qe_i S0) r) := by
  refine cn_of (own := RX12) (emb := (qe_i S0)) (lv := [(0, .int x0), (1, .int x1), (2, .int x2)]) rfl rfl (Nat.le_of_ble_eq_true rfl) rfl (fun X => ?_)
  unfold fX12_in
  refine qr_iload_n (n := 1) 0 (dkX12_in (i := 0) rfl) rfl rfl ?_
  refine qr_iload_n (n := 2) 1 (dkX12_in (i := 1) rfl) rfl rfl ?_
  refine qr_j (fun K_1 : Option Int32 => VV G Lm X RX12 cX12_in 3 (some .boolean) 1 (qe_i S0) 14 [] [] S0 (K_1)) (?_) (fun K_1 hK_1 => ?_)
  · refine qr_iconst (n := 15) 0 (dkX12_in (i := 8) rfl) rfl (by decide) ?_
    exact qr_zretc (dkX12_in (i := 9) rfl) rfl rfl rfl
  · refine qr_icmp_lt (t := 14) (n := 5) (dkX12_in (i := 2) rfl) (by decide) rfl ?_ ?_
    · refine qr_sub [] rfl ?_
      exact hK_1
    · refine qr_iload_n (n := 6) 0 (dkX12_in (i := 3) rfl) rfl rfl ?_
      refine qr_iload_n (n := 7) 2 (dkX12_in (i := 4) rfl) rfl rfl ?_
      refine qr_icmp_gt (t := 14) (n := 10) (dkX12_in (i := 5) rfl) (by decide) rfl ?_ ?_
      · refine qr_sub [] rfl ?_
        exact hK_1
      · refine qr_iconst (n := 11) 1 (dkX12_in (i := 6) rfl) rfl (by decide) ?_
        refine qr_goto (n := 15) (dkX12_in (i := 7) rfl) (by decide) ?_
        exact qr_zretc (dkX12_in (i := 9) rfl) rfl rfl rfl
def tbX12_isNoise : List (Nat × Instr × Nat) := [(0, .iload_n 1, 1), (1, .iconst 0, 1), (2, .aload_n 0, 1), (3, .getfield 43, 3), (6, .aload_n 0, 1), (7, .getfield 242, 3), (10, .iaload, 1), (11, .iconst 1, 1), (12, .isub, 1), (13, .invokestatic 319, 3), (16, .ireturn, 1)]
set_option maxRecDepth 20000 in
theorem daX12_isNoise : ∀ x ∈ tbX12_isNoise, decode cX12_isNoise x.1 = .ok x.2 := by decide +kernel
theorem dkX12_isNoise {i pc n : Nat} {ins : Instr} (h : tbX12_isNoise[i]? = some (pc, ins, n)) : decode cX12_isNoise pc = .ok (ins, n) := daX12_isNoise (pc, ins, n) (List.mem_of_getElem? h)
def fX12_isNoise (S0 : qv_St) (x1 : Int32) : Option Int32 :=
  qv_ck (S0.1 0 18) 2 <|
  (fX12_in x1 0 ((S0.1 9 (Int32.toNatClampNeg (S0.1 0 18))) - 1)).bind fun r_1 =>
  qv_rz r_1 (some r_1)
set_option maxRecDepth 20000 in
set_option maxHeartbeats 4000000 in
theorem wX12_isNoise (G : qv_GT) (S0 : qv_St) (x1 : Int32) : ∀ r, fX12_isNoise S0 x1 = some r → Cn G Lm yX12_isNoise cX12_isNoise 2 (some .boolean) 2 [.ref (G.2.2.1 0), .int x1] S0 ((qe_i S0) r) := by
  refine cn_of (own := RX12) (emb := (qe_i S0)) (lv := [(0, .ref (G.2.2.1 0)), (1, .int x1)]) rfl rfl (Nat.le_of_ble_eq_true rfl) rfl (fun X => ?_)
  unfold fX12_isNoise
  refine qr_iload_n (n := 1) 1 (dkX12_isNoise (i := 0) rfl) rfl rfl ?_
  refine qr_iconst (n := 2) 0 (dkX12_isNoise (i := 1) rfl) rfl (by decide) ?_
  refine qr_aload_n (n := 3) 0 (dkX12_isNoise (i := 2) rfl) rfl rfl ?_
  refine qr_geta (n := 6) 0 22 9 (dkX12_isNoise (i := 3) rfl) rfl lmO rfl gnX12 (Nat.le_of_ble_eq_true rfl) kfX12_43 rfl ?_
  refine qr_aload_n (n := 7) 0 (dkX12_isNoise (i := 4) rfl) rfl rfl ?_
  refine qr_geti (n := 10) 0 18 (dkX12_isNoise (i := 5) rfl) rfl lmO rfl gnX12 (Nat.le_of_ble_eq_true rfl) kfX12_242 rfl ?_
  refine qr_iald (n := 11) 9 2 (dkX12_isNoise (i := 6) rfl) rfl lmA_9 ?_
  refine qr_iconst (n := 12) 1 (dkX12_isNoise (i := 7) rfl) rfl (by decide) ?_
  refine qr_isub (n := 13) (dkX12_isNoise (i := 8) rfl) rfl ?_
  refine qr_csi (n := 16) [.int x1, .int 0, .int ((S0.1 9 (Int32.toNatClampNeg (S0.1 0 18))) - 1)] (dkX12_isNoise (i := 9) rfl) rfl kvX12_319 rfl rfl (Nat.le_of_ble_eq_true rfl) rfl rfl (wX12_in G S0 x1 0 ((S0.1 9 (Int32.toNatClampNeg (S0.1 0 18))) - 1)) (fun r_1 => ?_)
  exact qr_zret (dkX12_isNoise (i := 10) rfl) rfl rfl
def tbX12_isPlace : List (Nat × Instr × Nat) := [(0, .iload_n 1, 1), (1, .iconst 0, 1), (2, .aload_n 0, 1), (3, .getfield 65, 3), (6, .aload_n 0, 1), (7, .getfield 242, 3), (10, .iaload, 1), (11, .iconst 1, 1), (12, .isub, 1), (13, .invokestatic 319, 3), (16, .ireturn, 1)]
set_option maxRecDepth 20000 in
theorem daX12_isPlace : ∀ x ∈ tbX12_isPlace, decode cX12_isPlace x.1 = .ok x.2 := by decide +kernel
theorem dkX12_isPlace {i pc n : Nat} {ins : Instr} (h : tbX12_isPlace[i]? = some (pc, ins, n)) : decode cX12_isPlace pc = .ok (ins, n) := daX12_isPlace (pc, ins, n) (List.mem_of_getElem? h)
def fX12_isPlace (S0 : qv_St) (x1 : Int32) : Option Int32 :=
  qv_ck (S0.1 0 18) 2 <|
  (fX12_in x1 0 ((S0.1 16 (Int32.toNatClampNeg (S0.1 0 18))) - 1)).bind fun r_1 =>
  qv_rz r_1 (some r_1)
set_option maxRecDepth 20000 in
set_option maxHeartbeats 4000000 in
theorem wX12_isPlace (G : qv_GT) (S0 : qv_St) (x1 : Int32) : ∀ r, fX12_isPlace S0 x1 = some r → Cn G Lm yX12_isPlace cX12_isPlace 2 (some .boolean) 2 [.ref (G.2.2.1 0), .int x1] S0 ((qe_i S0) r) := by
  refine cn_of (own := RX12) (emb := (qe_i S0)) (lv := [(0, .ref (G.2.2.1 0)), (1, .int x1)]) rfl rfl (Nat.le_of_ble_eq_true rfl) rfl (fun X => ?_)
  unfold fX12_isPlace
  refine qr_iload_n (n := 1) 1 (dkX12_isPlace (i := 0) rfl) rfl rfl ?_
  refine qr_iconst (n := 2) 0 (dkX12_isPlace (i := 1) rfl) rfl (by decide) ?_
  refine qr_aload_n (n := 3) 0 (dkX12_isPlace (i := 2) rfl) rfl rfl ?_
  refine qr_geta (n := 6) 0 29 16 (dkX12_isPlace (i := 3) rfl) rfl lmO rfl gnX12 (Nat.le_of_ble_eq_true rfl) kfX12_65 rfl ?_
  refine qr_aload_n (n := 7) 0 (dkX12_isPlace (i := 4) rfl) rfl rfl ?_
  refine qr_geti (n := 10) 0 18 (dkX12_isPlace (i := 5) rfl) rfl lmO rfl gnX12 (Nat.le_of_ble_eq_true rfl) kfX12_242 rfl ?_
  refine qr_iald (n := 11) 16 2 (dkX12_isPlace (i := 6) rfl) rfl lmA_16 ?_
  refine qr_iconst (n := 12) 1 (dkX12_isPlace (i := 7) rfl) rfl (by decide) ?_
  refine qr_isub (n := 13) (dkX12_isPlace (i := 8) rfl) rfl ?_
  refine qr_csi (n := 16) [.int x1, .int 0, .int ((S0.1 16 (Int32.toNatClampNeg (S0.1 0 18))) - 1)] (dkX12_isPlace (i := 9) rfl) rfl kvX12_319 rfl rfl (Nat.le_of_ble_eq_true rfl) rfl rfl (wX12_in G S0 x1 0 ((S0.1 16 (Int32.toNatClampNeg (S0.1 0 18))) - 1)) (fun r_1 => ?_)
  exact qr_zret (dkX12_isPlace (i := 10) rfl) rfl rfl
def tbX12_isShot : List (Nat × Instr × Nat) := [(0, .iload_n 1, 1), (1, .iconst 0, 1), (2, .aload_n 0, 1), (3, .getfield 71, 3), (6, .aload_n 0, 1), (7, .getfield 242, 3), (10, .iaload, 1), (11, .iconst 1, 1), (12, .isub, 1), (13, .invokestatic 319, 3), (16, .ireturn, 1)]
set_option maxRecDepth 20000 in
theorem daX12_isShot : ∀ x ∈ tbX12_isShot, decode cX12_isShot x.1 = .ok x.2 := by decide +kernel
theorem dkX12_isShot {i pc n : Nat} {ins : Instr} (h : tbX12_isShot[i]? = some (pc, ins, n)) : decode cX12_isShot pc = .ok (ins, n) := daX12_isShot (pc, ins, n) (List.mem_of_getElem? h)
def fX12_isShot (S0 : qv_St) (x1 : Int32) : Option Int32 :=
  qv_ck (S0.1 0 18) 2 <|
  (fX12_in x1 0 ((S0.1 18 (Int32.toNatClampNeg (S0.1 0 18))) - 1)).bind fun r_1 =>
  qv_rz r_1 (some r_1)
set_option maxRecDepth 20000 in
set_option maxHeartbeats 4000000 in
theorem wX12_isShot (G : qv_GT) (S0 : qv_St) (x1 : Int32) : ∀ r, fX12_isShot S0 x1 = some r → Cn G Lm yX12_isShot cX12_isShot 2 (some .boolean) 2 [.ref (G.2.2.1 0), .int x1] S0 ((qe_i S0) r) := by
  refine cn_of (own := RX12) (emb := (qe_i S0)) (lv := [(0, .ref (G.2.2.1 0)), (1, .int x1)]) rfl rfl (Nat.le_of_ble_eq_true rfl) rfl (fun X => ?_)
  unfold fX12_isShot
  refine qr_iload_n (n := 1) 1 (dkX12_isShot (i := 0) rfl) rfl rfl ?_
  refine qr_iconst (n := 2) 0 (dkX12_isShot (i := 1) rfl) rfl (by decide) ?_
  refine qr_aload_n (n := 3) 0 (dkX12_isShot (i := 2) rfl) rfl rfl ?_
  refine qr_geta (n := 6) 0 31 18 (dkX12_isShot (i := 3) rfl) rfl lmO rfl gnX12 (Nat.le_of_ble_eq_true rfl) kfX12_71 rfl ?_
  refine qr_aload_n (n := 7) 0 (dkX12_isShot (i := 4) rfl) rfl rfl ?_
  refine qr_geti (n := 10) 0 18 (dkX12_isShot (i := 5) rfl) rfl lmO rfl gnX12 (Nat.le_of_ble_eq_true rfl) kfX12_242 rfl ?_
  refine qr_iald (n := 11) 18 2 (dkX12_isShot (i := 6) rfl) rfl lmA_18 ?_
  refine qr_iconst (n := 12) 1 (dkX12_isShot (i := 7) rfl) rfl (by decide) ?_
  refine qr_isub (n := 13) (dkX12_isShot (i := 8) rfl) rfl ?_
  refine qr_csi (n := 16) [.int x1, .int 0, .int ((S0.1 18 (Int32.toNatClampNeg (S0.1 0 18))) - 1)] (dkX12_isShot (i := 9) rfl) rfl kvX12_319 rfl rfl (Nat.le_of_ble_eq_true rfl) rfl rfl (wX12_in G S0 x1 0 ((S0.1 18 (Int32.toNatClampNeg (S0.1 0 18))) - 1)) (fun r_1 => ?_)
  exact qr_zret (dkX12_isShot (i := 10) rfl) rfl rfl
def tbX12_longFor : List (Nat × Instr × Nat) := [(0, .aload_n 0, 1), (1, .getfield 74, 3), (4, .bipush 6, 2), (6, .aload_n 0, 1), (7, .getfield 242, 3), (10, .imul, 1), (11, .iload_n 1, 1), (12, .iadd, 1), (13, .iaload, 1), (14, .ireturn, 1)]
set_option maxRecDepth 20000 in
theorem daX12_longFor : ∀ x ∈ tbX12_longFor, decode cX12_longFor x.1 = .ok x.2 := by decide +kernel
theorem dkX12_longFor {i pc n : Nat} {ins : Instr} (h : tbX12_longFor[i]? = some (pc, ins, n)) : decode cX12_longFor pc = .ok (ins, n) := daX12_longFor (pc, ins, n) (List.mem_of_getElem? h)
def fX12_longFor (S0 : qv_St) (x1 : Int32) : Option Int32 :=
  qv_ck ((6 * (S0.1 0 18)) + x1) 12 <|
  some (S0.1 19 (Int32.toNatClampNeg ((6 * (S0.1 0 18)) + x1)))
set_option maxRecDepth 20000 in
set_option maxHeartbeats 4000000 in
theorem wX12_longFor (G : qv_GT) (S0 : qv_St) (x1 : Int32) : ∀ r, fX12_longFor S0 x1 = some r → Cn G Lm yX12_longFor cX12_longFor 2 (some .int) 1 [.ref (G.2.2.1 0), .int x1] S0 ((qe_i S0) r) := by
  refine cn_of (own := RX12) (emb := (qe_i S0)) (lv := [(0, .ref (G.2.2.1 0)), (1, .int x1)]) rfl rfl (Nat.le_of_ble_eq_true rfl) rfl (fun X => ?_)
  unfold fX12_longFor
  refine qr_aload_n (n := 1) 0 (dkX12_longFor (i := 0) rfl) rfl rfl ?_
  refine qr_geta (n := 4) 0 32 19 (dkX12_longFor (i := 1) rfl) rfl lmO rfl gnX12 (Nat.le_of_ble_eq_true rfl) kfX12_74 rfl ?_
  refine qr_bipush (n := 6) 6 (dkX12_longFor (i := 2) rfl) rfl (by decide) ?_
  refine qr_aload_n (n := 7) 0 (dkX12_longFor (i := 3) rfl) rfl rfl ?_
  refine qr_geti (n := 10) 0 18 (dkX12_longFor (i := 4) rfl) rfl lmO rfl gnX12 (Nat.le_of_ble_eq_true rfl) kfX12_242 rfl ?_
  refine qr_imul (n := 11) (dkX12_longFor (i := 5) rfl) rfl ?_
  refine qr_iload_n (n := 12) 1 (dkX12_longFor (i := 6) rfl) rfl rfl ?_
  refine qr_iadd (n := 13) (dkX12_longFor (i := 7) rfl) rfl ?_
  refine qr_iald (n := 14) 19 12 (dkX12_longFor (i := 8) rfl) rfl lmA_19 ?_
  exact qr_iret (dkX12_longFor (i := 9) rfl) rfl rfl
def tbX12_copies : List (Nat × Instr × Nat) := [(0, .iconst 0, 1), (1, .istore_n 1, 1), (2, .iload_n 1, 1), (3, .bipush 32, 2), (5, .if_icmp .ge 21, 3), (8, .aload_n 0, 1), (9, .getfield 128, 3), (12, .iload_n 1, 1), (13, .aload_n 0, 1), (14, .getfield 125, 3), (17, .iload_n 1, 1), (18, .iaload, 1), (19, .iastore, 1), (20, .iinc 1 1, 3), (23, .goto (-21), 3), (26, .aload_n 0, 1), (27, .aload_n 0, 1), (28, .getfield 86, 3), (31, .aload_n 0, 1), (32, .getfield 242, 3), (35, .iaload, 1), (36, .putfield 323, 3), (39, .return_, 1)]
set_option maxRecDepth 20000 in
theorem daX12_copies : ∀ x ∈ tbX12_copies, decode cX12_copies x.1 = .ok x.2 := by decide +kernel
theorem dkX12_copies {i pc n : Nat} {ins : Instr} (h : tbX12_copies[i]? = some (pc, ins, n)) : decode cX12_copies pc = .ok (ins, n) := daX12_copies (pc, ins, n) (List.mem_of_getElem? h)
def fX12_copies (S0 : qv_St) : Option qv_St :=
  qv_j (fun (S_1 : qv_St) =>
    qv_ck (S_1.1 0 18) 2 <|
    qv_b (qv_si S_1 0 55 (S_1.1 23 (Int32.toNatClampNeg (S_1.1 0 18)))) fun S_2 =>
    some S_2) fun K_1 =>
  qv_lp2 qv_N (fun self_1 (S_3 : qv_St) (x1_1 : Int32) =>
    if 32 ≤ x1_1 then
      K_1 S_3
    else
      qv_ck x1_1 32 <|
      qv_ck x1_1 32 <| qv_b (qv_si S_3 37 (Int32.toNatClampNeg x1_1) (S_3.1 36 (Int32.toNatClampNeg x1_1))) fun S_4 =>
      self_1 S_4 (x1_1 + 1)) S0 0
set_option maxRecDepth 20000 in
set_option maxHeartbeats 4000000 in
theorem wX12_copies (G : qv_GT) (S0 : qv_St) : ∀ r, fX12_copies S0 = some r → Cn G Lm yX12_copies cX12_copies 2 none 1 [.ref (G.2.2.1 0)] S0 (qe_u r) := by
  refine cn_of (own := RX12) (emb := qe_u) (lv := [(0, .ref (G.2.2.1 0))]) rfl rfl (Nat.le_of_ble_eq_true rfl) rfl (fun X => ?_)
  unfold fX12_copies
  refine qr_iconst (n := 1) 0 (dkX12_copies (i := 0) rfl) rfl (by decide) ?_
  refine qr_istore_n (n := 2) (lv2 := [(0, .ref (G.2.2.1 0)), (1, .int 0)]) [1, 0] (dkX12_copies (i := 1) rfl) rfl rfl (by decide) rfl ?_
  refine qr_j (fun K_1 : qv_St → Option qv_St => ∀ (S_1 : qv_St), VV G Lm X RX12 cX12_copies 2 none 1 qe_u 26 [(0, .ref (G.2.2.1 0))] [] S_1 (K_1 S_1)) (fun S_1 => ?_) (fun K_1 hK_1 => ?_)
  · refine qr_aload_n (n := 27) 0 (dkX12_copies (i := 15) rfl) rfl rfl ?_
    refine qr_aload_n (n := 28) 0 (dkX12_copies (i := 16) rfl) rfl rfl ?_
    refine qr_geta (n := 31) 0 36 23 (dkX12_copies (i := 17) rfl) rfl lmO rfl gnX12 (Nat.le_of_ble_eq_true rfl) kfX12_86 rfl ?_
    refine qr_aload_n (n := 32) 0 (dkX12_copies (i := 18) rfl) rfl rfl ?_
    refine qr_geti (n := 35) 0 18 (dkX12_copies (i := 19) rfl) rfl lmO rfl gnX12 (Nat.le_of_ble_eq_true rfl) kfX12_242 rfl ?_
    refine qr_iald (n := 36) 23 2 (dkX12_copies (i := 20) rfl) rfl lmA_23 ?_
    refine qr_puti (n := 39) 0 55 (dkX12_copies (i := 21) rfl) rfl lmO rfl gnX12 (Nat.le_of_ble_eq_true rfl) kfX12_323 rfl tyX12_ok nmX12 rfl rfl (fun S_2 => ?_)
    exact qr_vret (dkX12_copies (i := 22) rfl) rfl rfl
  · refine qr_lp2 (fun (S_3 : qv_St) (x1_1 : Int32) => [(0, .ref (G.2.2.1 0)), (1, .int x1_1)]) (fun (S_3 : qv_St) (x1_1 : Int32) => S_3) (fun self_1 hself_1 S_3 x1_1 => ?_) qv_N S0 0
    refine qr_iload_n (n := 3) 1 (dkX12_copies (i := 2) rfl) rfl rfl ?_
    refine qr_bipush (n := 5) 32 (dkX12_copies (i := 3) rfl) rfl (by decide) ?_
    refine qr_icmp_ge (t := 26) (n := 8) (dkX12_copies (i := 4) rfl) (by decide) rfl ?_ ?_
    · refine qr_sub [0] rfl ?_
      exact hK_1 S_3
    · refine qr_aload_n (n := 9) 0 (dkX12_copies (i := 5) rfl) rfl rfl ?_
      refine qr_geta (n := 12) 0 54 37 (dkX12_copies (i := 6) rfl) rfl lmO rfl gnX12 (Nat.le_of_ble_eq_true rfl) kfX12_128 rfl ?_
      refine qr_iload_n (n := 13) 1 (dkX12_copies (i := 7) rfl) rfl rfl ?_
      refine qr_aload_n (n := 14) 0 (dkX12_copies (i := 8) rfl) rfl rfl ?_
      refine qr_geta (n := 17) 0 53 36 (dkX12_copies (i := 9) rfl) rfl lmO rfl gnX12 (Nat.le_of_ble_eq_true rfl) kfX12_125 rfl ?_
      refine qr_iload_n (n := 18) 1 (dkX12_copies (i := 10) rfl) rfl rfl ?_
      refine qr_iald (n := 19) 36 32 (dkX12_copies (i := 11) rfl) rfl lmA_36 ?_
      refine qr_iast (n := 20) 37 32 (dkX12_copies (i := 12) rfl) rfl lmA_37 (fun S_4 => ?_)
      refine qr_iinc (n := 23) (v := 1) (lv2 := [(0, .ref (G.2.2.1 0)), (1, .int (x1_1 + 1))]) 1 [1, 0] (dkX12_copies (i := 13) rfl) rfl rfl (by decide) (by decide) rfl ?_
      refine qr_goto (n := 2) (dkX12_copies (i := 14) rfl) (by decide) ?_
      exact hself_1 S_4 (x1_1 + 1)
def tbX12_mixed : List (Nat × Instr × Nat) := [(0, .iload_n 0, 1), (1, .iload_n 1, 1), (2, .ixor, 1), (3, .ldc_w 326, 3), (6, .imul, 1), (7, .sipush 12345, 3), (10, .iadd, 1), (11, .istore_n 2, 1), (12, .iload_n 2, 1), (13, .iload_n 2, 1), (14, .bipush 15, 2), (16, .iushr, 1), (17, .ixor, 1), (18, .ireturn, 1)]
set_option maxRecDepth 20000 in
theorem daX12_mixed : ∀ x ∈ tbX12_mixed, decode cX12_mixed x.1 = .ok x.2 := by decide +kernel
theorem dkX12_mixed {i pc n : Nat} {ins : Instr} (h : tbX12_mixed[i]? = some (pc, ins, n)) : decode cX12_mixed pc = .ok (ins, n) := daX12_mixed (pc, ins, n) (List.mem_of_getElem? h)
def fX12_mixed (x0 : Int32) (x1 : Int32) : Option Int32 :=
  qv_b ((((x0 ^^^ x1) * 1103515245) + 12345) : Int32) fun x2_1 =>
  some (x2_1 ^^^ (Int32.toUInt32 x2_1 >>> (Int32.toUInt32 15 &&& Int32.toUInt32 31)).toInt32)
set_option maxRecDepth 20000 in
set_option maxHeartbeats 4000000 in
theorem wX12_mixed (G : qv_GT) (S0 : qv_St) (x0 : Int32) (x1 : Int32) : ∀ r, fX12_mixed x0 x1 = some r → Cn G Lm yX12_mixed cX12_mixed 3 (some .int) 1 [.int x0, .int x1] S0 ((qe_i S0) r) := by
  refine cn_of (own := RX12) (emb := (qe_i S0)) (lv := [(0, .int x0), (1, .int x1)]) rfl rfl (Nat.le_of_ble_eq_true rfl) rfl (fun X => ?_)
  unfold fX12_mixed
  refine qr_iload_n (n := 1) 0 (dkX12_mixed (i := 0) rfl) rfl rfl ?_
  refine qr_iload_n (n := 2) 1 (dkX12_mixed (i := 1) rfl) rfl rfl ?_
  refine qr_ixor (n := 3) (dkX12_mixed (i := 2) rfl) rfl ?_
  refine qr_ldcw (n := 6) 1103515245 (dkX12_mixed (i := 3) rfl) rfl kcX12_326 ?_
  refine qr_imul (n := 7) (dkX12_mixed (i := 4) rfl) rfl ?_
  refine qr_sipush (n := 10) 12345 (dkX12_mixed (i := 5) rfl) rfl (by decide) ?_
  refine qr_iadd (n := 11) (dkX12_mixed (i := 6) rfl) rfl ?_
  refine qr_b (α := Int32) (((x0 ^^^ x1) * 1103515245) + 12345) (lvf := fun _ => [(0, .int x0), (1, .int x1)]) (stf := fun z => .int z :: []) (Sf := fun _ => S0) (fun x2_1 => ?_)
  refine qr_istore_n (n := 12) (lv2 := [(0, .int x0), (1, .int x1), (2, .int x2_1)]) [1, 2, 0] (dkX12_mixed (i := 7) rfl) rfl rfl (by decide) rfl ?_
  refine qr_iload_n (n := 13) 2 (dkX12_mixed (i := 8) rfl) rfl rfl ?_
  refine qr_iload_n (n := 14) 2 (dkX12_mixed (i := 9) rfl) rfl rfl ?_
  refine qr_bipush (n := 16) 15 (dkX12_mixed (i := 10) rfl) rfl (by decide) ?_
  refine qr_iushr (n := 17) (dkX12_mixed (i := 11) rfl) rfl ?_
  refine qr_ixor (n := 18) (dkX12_mixed (i := 12) rfl) rfl ?_
  exact qr_iret (dkX12_mixed (i := 13) rfl) rfl rfl
def tbX12_lotOf : List (Nat × Instr × Nat) := [(0, .aload_n 0, 1), (1, .getfield 323, 3), (4, .bipush 79, 2), (6, .invokestatic 327, 3), (9, .iload_n 1, 1), (10, .invokestatic 327, 3), (13, .iconst 1, 1), (14, .iushr, 1), (15, .bipush 100, 2), (17, .irem, 1), (18, .ireturn, 1)]
set_option maxRecDepth 20000 in
theorem daX12_lotOf : ∀ x ∈ tbX12_lotOf, decode cX12_lotOf x.1 = .ok x.2 := by decide +kernel
theorem dkX12_lotOf {i pc n : Nat} {ins : Instr} (h : tbX12_lotOf[i]? = some (pc, ins, n)) : decode cX12_lotOf pc = .ok (ins, n) := daX12_lotOf (pc, ins, n) (List.mem_of_getElem? h)
def fX12_lotOf (S0 : qv_St) (x1 : Int32) : Option Int32 :=
  (fX12_mixed (S0.1 0 55) 79).bind fun r_1 =>
  (fX12_mixed r_1 x1).bind fun r_2 =>
  qv_nz 100 <|
  some ((Int32.toUInt32 r_2 >>> (Int32.toUInt32 1 &&& Int32.toUInt32 31)).toInt32 - (Int32.toUInt32 r_2 >>> (Int32.toUInt32 1 &&& Int32.toUInt32 31)).toInt32 / 100 * 100)
set_option maxRecDepth 20000 in
set_option maxHeartbeats 4000000 in
theorem wX12_lotOf (G : qv_GT) (S0 : qv_St) (x1 : Int32) : ∀ r, fX12_lotOf S0 x1 = some r → Cn G Lm yX12_lotOf cX12_lotOf 2 (some .int) 2 [.ref (G.2.2.1 0), .int x1] S0 ((qe_i S0) r) := by
  refine cn_of (own := RX12) (emb := (qe_i S0)) (lv := [(0, .ref (G.2.2.1 0)), (1, .int x1)]) rfl rfl (Nat.le_of_ble_eq_true rfl) rfl (fun X => ?_)
  unfold fX12_lotOf
  refine qr_aload_n (n := 1) 0 (dkX12_lotOf (i := 0) rfl) rfl rfl ?_
  refine qr_geti (n := 4) 0 55 (dkX12_lotOf (i := 1) rfl) rfl lmO rfl gnX12 (Nat.le_of_ble_eq_true rfl) kfX12_323 rfl ?_
  refine qr_bipush (n := 6) 79 (dkX12_lotOf (i := 2) rfl) rfl (by decide) ?_
  refine qr_csi (n := 9) [.int (S0.1 0 55), .int 79] (dkX12_lotOf (i := 3) rfl) rfl kvX12_327 rfl rfl (Nat.le_of_ble_eq_true rfl) rfl rfl (wX12_mixed G S0 (S0.1 0 55) 79) (fun r_1 => ?_)
  refine qr_iload_n (n := 10) 1 (dkX12_lotOf (i := 4) rfl) rfl rfl ?_
  refine qr_csi (n := 13) [.int r_1, .int x1] (dkX12_lotOf (i := 5) rfl) rfl kvX12_327 rfl rfl (Nat.le_of_ble_eq_true rfl) rfl rfl (wX12_mixed G S0 r_1 x1) (fun r_2 => ?_)
  refine qr_iconst (n := 14) 1 (dkX12_lotOf (i := 6) rfl) rfl (by decide) ?_
  refine qr_iushr (n := 15) (dkX12_lotOf (i := 7) rfl) rfl ?_
  refine qr_bipush (n := 17) 100 (dkX12_lotOf (i := 8) rfl) rfl (by decide) ?_
  refine qr_irem (n := 18) (dkX12_lotOf (i := 9) rfl) rfl ?_
  exact qr_iret (dkX12_lotOf (i := 10) rfl) rfl rfl
def tbX12_looks : List (Nat × Instr × Nat) := [(0, .iconst 0, 1), (1, .istore_n 2, 1), (2, .iload_n 2, 1), (3, .bipush 8, 2), (5, .if_icmp .ge 16, 3), (8, .aload_n 0, 1), (9, .getfield 119, 3), (12, .iload_n 2, 1), (13, .iconst 0, 1), (14, .iastore, 1), (15, .iinc 2 1, 3), (18, .goto (-16), 3), (21, .aload_n 0, 1), (22, .getfield 119, 3), (25, .bipush 8, 2), (27, .iload_n 1, 1), (28, .iastore, 1), (29, .return_, 1)]
set_option maxRecDepth 20000 in
theorem daX12_looks : ∀ x ∈ tbX12_looks, decode cX12_looks x.1 = .ok x.2 := by decide +kernel
theorem dkX12_looks {i pc n : Nat} {ins : Instr} (h : tbX12_looks[i]? = some (pc, ins, n)) : decode cX12_looks pc = .ok (ins, n) := daX12_looks (pc, ins, n) (List.mem_of_getElem? h)
def fX12_looks (S0 : qv_St) (x1 : Int32) : Option qv_St :=
  qv_j (fun (S_1 : qv_St) =>
    qv_ck 8 9 <| qv_b (qv_si S_1 34 (Int32.toNatClampNeg 8) x1) fun S_2 =>
    some S_2) fun K_1 =>
  qv_lp2 qv_N (fun self_1 (S_3 : qv_St) (x2_1 : Int32) =>
    if 8 ≤ x2_1 then
      K_1 S_3
    else
      qv_ck x2_1 9 <| qv_b (qv_si S_3 34 (Int32.toNatClampNeg x2_1) 0) fun S_4 =>
      self_1 S_4 (x2_1 + 1)) S0 0
set_option maxRecDepth 20000 in
set_option maxHeartbeats 4000000 in
theorem wX12_looks (G : qv_GT) (S0 : qv_St) (x1 : Int32) : ∀ r, fX12_looks S0 x1 = some r → Cn G Lm yX12_looks cX12_looks 3 none 1 [.ref (G.2.2.1 0), .int x1] S0 (qe_u r) := by
  refine cn_of (own := RX12) (emb := qe_u) (lv := [(0, .ref (G.2.2.1 0)), (1, .int x1)]) rfl rfl (Nat.le_of_ble_eq_true rfl) rfl (fun X => ?_)
  unfold fX12_looks
  refine qr_iconst (n := 1) 0 (dkX12_looks (i := 0) rfl) rfl (by decide) ?_
  refine qr_istore_n (n := 2) (lv2 := [(0, .ref (G.2.2.1 0)), (1, .int x1), (2, .int 0)]) [1, 2, 0] (dkX12_looks (i := 1) rfl) rfl rfl (by decide) rfl ?_
  refine qr_j (fun K_1 : qv_St → Option qv_St => ∀ (S_1 : qv_St), VV G Lm X RX12 cX12_looks 3 none 1 qe_u 21 [(0, .ref (G.2.2.1 0)), (1, .int x1)] [] S_1 (K_1 S_1)) (fun S_1 => ?_) (fun K_1 hK_1 => ?_)
  · refine qr_aload_n (n := 22) 0 (dkX12_looks (i := 12) rfl) rfl rfl ?_
    refine qr_geta (n := 25) 0 50 34 (dkX12_looks (i := 13) rfl) rfl lmO rfl gnX12 (Nat.le_of_ble_eq_true rfl) kfX12_119 rfl ?_
    refine qr_bipush (n := 27) 8 (dkX12_looks (i := 14) rfl) rfl (by decide) ?_
    refine qr_iload_n (n := 28) 1 (dkX12_looks (i := 15) rfl) rfl rfl ?_
    refine qr_iast (n := 29) 34 9 (dkX12_looks (i := 16) rfl) rfl lmA_34 (fun S_2 => ?_)
    exact qr_vret (dkX12_looks (i := 17) rfl) rfl rfl
  · refine qr_lp2 (fun (S_3 : qv_St) (x2_1 : Int32) => [(0, .ref (G.2.2.1 0)), (1, .int x1), (2, .int x2_1)]) (fun (S_3 : qv_St) (x2_1 : Int32) => S_3) (fun self_1 hself_1 S_3 x2_1 => ?_) qv_N S0 0
    refine qr_iload_n (n := 3) 2 (dkX12_looks (i := 2) rfl) rfl rfl ?_
    refine qr_bipush (n := 5) 8 (dkX12_looks (i := 3) rfl) rfl (by decide) ?_
    refine qr_icmp_ge (t := 21) (n := 8) (dkX12_looks (i := 4) rfl) (by decide) rfl ?_ ?_
    · refine qr_sub [0, 1] rfl ?_
      exact hK_1 S_3
    · refine qr_aload_n (n := 9) 0 (dkX12_looks (i := 5) rfl) rfl rfl ?_
      refine qr_geta (n := 12) 0 50 34 (dkX12_looks (i := 6) rfl) rfl lmO rfl gnX12 (Nat.le_of_ble_eq_true rfl) kfX12_119 rfl ?_
      refine qr_iload_n (n := 13) 2 (dkX12_looks (i := 7) rfl) rfl rfl ?_
      refine qr_iconst (n := 14) 0 (dkX12_looks (i := 8) rfl) rfl (by decide) ?_
      refine qr_iast (n := 15) 34 9 (dkX12_looks (i := 9) rfl) rfl lmA_34 (fun S_4 => ?_)
      refine qr_iinc (n := 18) (v := 1) (lv2 := [(0, .ref (G.2.2.1 0)), (1, .int x1), (2, .int (x2_1 + 1))]) 2 [1, 2, 0] (dkX12_looks (i := 10) rfl) rfl rfl (by decide) (by decide) rfl ?_
      refine qr_goto (n := 2) (dkX12_looks (i := 11) rfl) (by decide) ?_
      exact hself_1 S_4 (x2_1 + 1)
def tbX12_asks : List (Nat × Instr × Nat) := [(0, .iconst 3, 1), (1, .aload_n 0, 1), (2, .getfield 242, 3), (5, .imul, 1), (6, .iload_n 1, 1), (7, .iadd, 1), (8, .istore 4, 2), (10, .aload_n 0, 1), (11, .getfield 89, 3), (14, .iload 4, 2), (16, .iaload, 1), (17, .aload_n 0, 1), (18, .getfield 92, 3), (21, .iload 4, 2), (23, .iaload, 1), (24, .if_icmp .ne 5, 3), (27, .iload_n 2, 1), (28, .ireturn, 1), (29, .aload_n 0, 1), (30, .iconst 0, 1), (31, .putfield 315, 3), (34, .aload_n 0, 1), (35, .getfield 89, 3), (38, .iload 4, 2), (40, .iaload, 1), (41, .istore 5, 2), (43, .iload 5, 2), (45, .aload_n 0, 1), (46, .getfield 92, 3), (49, .iload 4, 2), (51, .iaload, 1), (52, .if_icmp .ge 127, 3), (55, .aload_n 0, 1), (56, .getfield 95, 3), (59, .iload 5, 2), (61, .baload, 1), (62, .ifCond .eq 62, 3), (65, .aload_n 0, 1), (66, .aload_n 0, 1), (67, .getfield 98, 3), (70, .iload 5, 2), (72, .iaload, 1), (73, .aload_n 0, 1), (74, .getfield 101, 3), (77, .iload 5, 2), (79, .iaload, 1), (80, .invokevirtual 330, 3), (83, .istore 6, 2), (85, .aload_n 0, 1), (86, .aload_n 0, 1), (87, .getfield 101, 3), (90, .iload 5, 2), (92, .iaload, 1), (93, .aload_n 0, 1), (94, .getfield 104, 3), (97, .iload 5, 2), (99, .iaload, 1), (100, .invokevirtual 330, 3), (103, .istore 7, 2), (105, .aload_n 0, 1), (106, .getfield 315, 3), (109, .ifCond .eq 5, 3), (112, .iconst 0, 1), (113, .ireturn, 1), (114, .iload 6, 2), (116, .iload 7, 2), (118, .if_icmp .lt 6, 3), (121, .goto 52, 3), (124, .aload_n 0, 1), (125, .aload_n 0, 1), (126, .getfield 104, 3), (129, .iload 5, 2), (131, .iaload, 1), (132, .aload_n 0, 1), (133, .getfield 107, 3), (136, .iload 5, 2), (138, .iaload, 1), (139, .invokevirtual 330, 3), (142, .istore 6, 2), (144, .aload_n 0, 1), (145, .getfield 315, 3), (148, .ifCond .ne 8, 3), (151, .iload 6, 2), (153, .ifCond .ge 7, 3), (156, .iconst 0, 1), (157, .goto 15, 3), (160, .iload 6, 2), (162, .iload_n 3, 1), (163, .if_icmp .le 7, 3), (166, .iload_n 3, 1), (167, .goto 5, 3), (170, .iload 6, 2), (172, .ireturn, 1), (173, .iinc 5 1, 3), (176, .goto (-133), 3), (179, .iconst 0, 1), (180, .ireturn, 1)]
set_option maxRecDepth 20000 in
theorem daX12_asks : ∀ x ∈ tbX12_asks, decode cX12_asks x.1 = .ok x.2 := by decide +kernel
theorem dkX12_asks {i pc n : Nat} {ins : Instr} (h : tbX12_asks[i]? = some (pc, ins, n)) : decode cX12_asks pc = .ok (ins, n) := daX12_asks (pc, ins, n) (List.mem_of_getElem? h)
def fX12_asks (S0 : qv_St) (x1 : Int32) (x2 : Int32) (x3 : Int32) : Option (qv_St × Int32) :=
  qv_b (((3 * (S0.1 0 18)) + x1) : Int32) fun x4_1 =>
  qv_ck x4_1 6 <|
  qv_ck x4_1 6 <|
  if (S0.1 24 (Int32.toNatClampNeg x4_1)) = (S0.1 25 (Int32.toNatClampNeg x4_1)) then
    some (S0, x2)
  else
    qv_b (qv_si S0 0 52 0) fun S_1 =>
    qv_ck x4_1 6 <|
    qv_b ((S_1.1 24 (Int32.toNatClampNeg x4_1)) : Int32) fun x5_1 =>
    qv_j (fun (S_2 : qv_St) (x5_2 : Int32) =>
      qv_ck x5_2 260 <|
      qv_ck x5_2 260 <|
      qv_cm (fX12_termOf S_2 (S_2.1 29 (Int32.toNatClampNeg x5_2)) (S_2.1 30 (Int32.toNatClampNeg x5_2))) fun S_3 r_1 =>
      qv_j (
        some (S_3, 0)) fun K_2 =>
      if (S_3.1 0 52) = 0 then
        if 0 ≤ r_1 then
          if r_1 ≤ x3 then
            some (S_3, r_1)
          else
            some (S_3, x3)
        else
          K_2
      else
        K_2) fun K_1 =>
    qv_lp2 qv_N (fun self_1 (S_4 : qv_St) (x5_3 : Int32) =>
      qv_ck x4_1 6 <|
      if (S_4.1 25 (Int32.toNatClampNeg x4_1)) ≤ x5_3 then
        some (S_4, 0)
      else
        qv_ck x5_3 260 <|
        if (S_4.1 26 (Int32.toNatClampNeg x5_3)) = 0 then
          K_1 S_4 x5_3
        else
          qv_ck x5_3 260 <|
          qv_ck x5_3 260 <|
          qv_cm (fX12_termOf S_4 (S_4.1 27 (Int32.toNatClampNeg x5_3)) (S_4.1 28 (Int32.toNatClampNeg x5_3))) fun S_5 r_2 =>
          qv_ck x5_3 260 <|
          qv_ck x5_3 260 <|
          qv_cm (fX12_termOf S_5 (S_5.1 28 (Int32.toNatClampNeg x5_3)) (S_5.1 29 (Int32.toNatClampNeg x5_3))) fun S_6 r_3 =>
          if (S_6.1 0 52) = 0 then
            if r_2 < r_3 then
              K_1 S_6 x5_3
            else
              self_1 S_6 (x5_3 + 1)
          else
            some (S_6, 0)) S_1 x5_1
set_option maxRecDepth 20000 in
set_option maxHeartbeats 4000000 in
theorem wX12_asks (G : qv_GT) (S0 : qv_St) (x1 : Int32) (x2 : Int32) (x3 : Int32) : ∀ r, fX12_asks S0 x1 x2 x3 = some r → Cn G Lm yX12_asks cX12_asks 8 (some .int) 2 [.ref (G.2.2.1 0), .int x1, .int x2, .int x3] S0 (qe_m r) := by
  refine cn_of (own := RX12) (emb := qe_m) (lv := [(0, .ref (G.2.2.1 0)), (1, .int x1), (2, .int x2), (3, .int x3)]) rfl rfl (Nat.le_of_ble_eq_true rfl) rfl (fun X => ?_)
  unfold fX12_asks
  refine qr_iconst (n := 1) 3 (dkX12_asks (i := 0) rfl) rfl (by decide) ?_
  refine qr_aload_n (n := 2) 0 (dkX12_asks (i := 1) rfl) rfl rfl ?_
  refine qr_geti (n := 5) 0 18 (dkX12_asks (i := 2) rfl) rfl lmO rfl gnX12 (Nat.le_of_ble_eq_true rfl) kfX12_242 rfl ?_
  refine qr_imul (n := 6) (dkX12_asks (i := 3) rfl) rfl ?_
  refine qr_iload_n (n := 7) 1 (dkX12_asks (i := 4) rfl) rfl rfl ?_
  refine qr_iadd (n := 8) (dkX12_asks (i := 5) rfl) rfl ?_
  refine qr_b (α := Int32) ((3 * (S0.1 0 18)) + x1) (lvf := fun _ => [(0, .ref (G.2.2.1 0)), (1, .int x1), (2, .int x2), (3, .int x3)]) (stf := fun z => .int z :: []) (Sf := fun _ => S0) (fun x4_1 => ?_)
  refine qr_istore (n := 10) (lv2 := [(0, .ref (G.2.2.1 0)), (1, .int x1), (2, .int x2), (3, .int x3), (4, .int x4_1)]) [1, 2, 3, 4, 0] (dkX12_asks (i := 6) rfl) rfl (by decide) rfl ?_
  refine qr_aload_n (n := 11) 0 (dkX12_asks (i := 7) rfl) rfl rfl ?_
  refine qr_geta (n := 14) 0 37 24 (dkX12_asks (i := 8) rfl) rfl lmO rfl gnX12 (Nat.le_of_ble_eq_true rfl) kfX12_89 rfl ?_
  refine qr_iload (n := 16) 4 (dkX12_asks (i := 9) rfl) rfl rfl ?_
  refine qr_iald (n := 17) 24 6 (dkX12_asks (i := 10) rfl) rfl lmA_24 ?_
  refine qr_aload_n (n := 18) 0 (dkX12_asks (i := 11) rfl) rfl rfl ?_
  refine qr_geta (n := 21) 0 38 25 (dkX12_asks (i := 12) rfl) rfl lmO rfl gnX12 (Nat.le_of_ble_eq_true rfl) kfX12_92 rfl ?_
  refine qr_iload (n := 23) 4 (dkX12_asks (i := 13) rfl) rfl rfl ?_
  refine qr_iald (n := 24) 25 6 (dkX12_asks (i := 14) rfl) rfl lmA_25 ?_
  refine qr_icmp_ne (t := 29) (n := 27) (dkX12_asks (i := 15) rfl) (by decide) rfl ?_ ?_
  · refine qr_aload_n (n := 30) 0 (dkX12_asks (i := 18) rfl) rfl rfl ?_
    refine qr_iconst (n := 31) 0 (dkX12_asks (i := 19) rfl) rfl (by decide) ?_
    refine qr_putz (n := 34) 0 52 (dkX12_asks (i := 20) rfl) rfl lmO rfl gnX12 (Nat.le_of_ble_eq_true rfl) kfX12_315 rfl tyX12_ok nmX12 rfl rfl (by decide) (fun S_1 => ?_)
    refine qr_aload_n (n := 35) 0 (dkX12_asks (i := 21) rfl) rfl rfl ?_
    refine qr_geta (n := 38) 0 37 24 (dkX12_asks (i := 22) rfl) rfl lmO rfl gnX12 (Nat.le_of_ble_eq_true rfl) kfX12_89 rfl ?_
    refine qr_iload (n := 40) 4 (dkX12_asks (i := 23) rfl) rfl rfl ?_
    refine qr_iald (n := 41) 24 6 (dkX12_asks (i := 24) rfl) rfl lmA_24 ?_
    refine qr_b (α := Int32) (S_1.1 24 (Int32.toNatClampNeg x4_1)) (lvf := fun _ => [(0, .ref (G.2.2.1 0)), (1, .int x1), (2, .int x2), (3, .int x3), (4, .int x4_1)]) (stf := fun z => .int z :: []) (Sf := fun _ => S_1) (fun x5_1 => ?_)
    refine qr_istore (n := 43) (lv2 := [(0, .ref (G.2.2.1 0)), (1, .int x1), (2, .int x2), (3, .int x3), (4, .int x4_1), (5, .int x5_1)]) [1, 2, 3, 4, 5, 0] (dkX12_asks (i := 25) rfl) rfl (by decide) rfl ?_
    refine qr_sub [0, 3, 4, 5] rfl ?_
    refine qr_j (fun K_1 : qv_St → Int32 → Option (qv_St × Int32) => ∀ (S_2 : qv_St) (x5_2 : Int32), VV G Lm X RX12 cX12_asks 8 (some .int) 2 qe_m 124 [(0, .ref (G.2.2.1 0)), (3, .int x3), (5, .int x5_2)] [] S_2 (K_1 S_2 x5_2)) (fun S_2 x5_2 => ?_) (fun K_1 hK_1 => ?_)
    · refine qr_aload_n (n := 125) 0 (dkX12_asks (i := 68) rfl) rfl rfl ?_
      refine qr_aload_n (n := 126) 0 (dkX12_asks (i := 69) rfl) rfl rfl ?_
      refine qr_geta (n := 129) 0 43 29 (dkX12_asks (i := 70) rfl) rfl lmO rfl gnX12 (Nat.le_of_ble_eq_true rfl) kfX12_104 rfl ?_
      refine qr_iload (n := 131) 2 (dkX12_asks (i := 71) rfl) rfl rfl ?_
      refine qr_iald (n := 132) 29 260 (dkX12_asks (i := 72) rfl) rfl lmA_29 ?_
      refine qr_aload_n (n := 133) 0 (dkX12_asks (i := 73) rfl) rfl rfl ?_
      refine qr_geta (n := 136) 0 44 30 (dkX12_asks (i := 74) rfl) rfl lmO rfl gnX12 (Nat.le_of_ble_eq_true rfl) kfX12_107 rfl ?_
      refine qr_iload (n := 138) 2 (dkX12_asks (i := 75) rfl) rfl rfl ?_
      refine qr_iald (n := 139) 30 260 (dkX12_asks (i := 76) rfl) rfl lmA_30 ?_
      refine qr_cvm (n := 142) 0 [.int (S_2.1 29 (Int32.toNatClampNeg x5_2)), .int (S_2.1 30 (Int32.toNatClampNeg x5_2))] (dkX12_asks (i := 77) rfl) rfl kvX12_330 rfl rfl (Nat.le_of_ble_eq_true rfl) rfl rfl lmO rfl (wX12_termOf G S_2 (S_2.1 29 (Int32.toNatClampNeg x5_2)) (S_2.1 30 (Int32.toNatClampNeg x5_2))) (fun S_3 r_1 => ?_)
      refine qr_istore (n := 144) (lv2 := [(0, .ref (G.2.2.1 0)), (3, .int x3), (5, .int x5_2), (6, .int r_1)]) [1, 2, 3, 0] (dkX12_asks (i := 78) rfl) rfl (by decide) rfl ?_
      refine qr_aload_n (n := 145) 0 (dkX12_asks (i := 79) rfl) rfl rfl ?_
      refine qr_geti (n := 148) 0 52 (dkX12_asks (i := 80) rfl) rfl lmO rfl gnX12 (Nat.le_of_ble_eq_true rfl) kfX12_315 rfl ?_
      refine qr_j (fun K_2 : Option (qv_St × Int32) => VV G Lm X RX12 cX12_asks 8 (some .int) 2 qe_m 156 [] [] S_3 (K_2)) (?_) (fun K_2 hK_2 => ?_)
      · refine qr_iconst (n := 157) 0 (dkX12_asks (i := 84) rfl) rfl (by decide) ?_
        refine qr_goto (n := 172) (dkX12_asks (i := 85) rfl) (by decide) ?_
        exact qr_iret (dkX12_asks (i := 92) rfl) rfl rfl
      · refine qr_if_ne (t := 156) (n := 151) (dkX12_asks (i := 81) rfl) (by decide) rfl ?_ ?_
        · refine qr_sub [] rfl ?_
          exact hK_2
        · refine qr_iload (n := 153) 3 (dkX12_asks (i := 82) rfl) rfl rfl ?_
          refine qr_if_ge (t := 160) (n := 156) (dkX12_asks (i := 83) rfl) (by decide) rfl ?_ ?_
          · refine qr_iload (n := 162) 3 (dkX12_asks (i := 86) rfl) rfl rfl ?_
            refine qr_iload_n (n := 163) 1 (dkX12_asks (i := 87) rfl) rfl rfl ?_
            refine qr_icmp_le (t := 170) (n := 166) (dkX12_asks (i := 88) rfl) (by decide) rfl ?_ ?_
            · refine qr_iload (n := 172) 3 (dkX12_asks (i := 91) rfl) rfl rfl ?_
              exact qr_iret (dkX12_asks (i := 92) rfl) rfl rfl
            · refine qr_iload_n (n := 167) 1 (dkX12_asks (i := 89) rfl) rfl rfl ?_
              refine qr_goto (n := 172) (dkX12_asks (i := 90) rfl) (by decide) ?_
              exact qr_iret (dkX12_asks (i := 92) rfl) rfl rfl
          · refine qr_sub [] rfl ?_
            exact hK_2
    · refine qr_lp2 (fun (S_4 : qv_St) (x5_3 : Int32) => [(0, .ref (G.2.2.1 0)), (3, .int x3), (4, .int x4_1), (5, .int x5_3)]) (fun (S_4 : qv_St) (x5_3 : Int32) => S_4) (fun self_1 hself_1 S_4 x5_3 => ?_) qv_N S_1 x5_1
      refine qr_iload (n := 45) 3 (dkX12_asks (i := 26) rfl) rfl rfl ?_
      refine qr_aload_n (n := 46) 0 (dkX12_asks (i := 27) rfl) rfl rfl ?_
      refine qr_geta (n := 49) 0 38 25 (dkX12_asks (i := 28) rfl) rfl lmO rfl gnX12 (Nat.le_of_ble_eq_true rfl) kfX12_92 rfl ?_
      refine qr_iload (n := 51) 2 (dkX12_asks (i := 29) rfl) rfl rfl ?_
      refine qr_iald (n := 52) 25 6 (dkX12_asks (i := 30) rfl) rfl lmA_25 ?_
      refine qr_icmp_ge (t := 179) (n := 55) (dkX12_asks (i := 31) rfl) (by decide) rfl ?_ ?_
      · refine qr_iconst (n := 180) 0 (dkX12_asks (i := 95) rfl) rfl (by decide) ?_
        exact qr_iret (dkX12_asks (i := 96) rfl) rfl rfl
      · refine qr_aload_n (n := 56) 0 (dkX12_asks (i := 32) rfl) rfl rfl ?_
        refine qr_geta (n := 59) 0 40 26 (dkX12_asks (i := 33) rfl) rfl lmO rfl gnX12 (Nat.le_of_ble_eq_true rfl) kfX12_95 rfl ?_
        refine qr_iload (n := 61) 3 (dkX12_asks (i := 34) rfl) rfl rfl ?_
        refine qr_zald (n := 62) 26 260 (dkX12_asks (i := 35) rfl) rfl lmA_26 ?_
        refine qr_if_eq (t := 124) (n := 65) (dkX12_asks (i := 36) rfl) (by decide) rfl ?_ ?_
        · refine qr_sub [0, 1, 3] rfl ?_
          exact hK_1 S_4 x5_3
        · refine qr_aload_n (n := 66) 0 (dkX12_asks (i := 37) rfl) rfl rfl ?_
          refine qr_aload_n (n := 67) 0 (dkX12_asks (i := 38) rfl) rfl rfl ?_
          refine qr_geta (n := 70) 0 41 27 (dkX12_asks (i := 39) rfl) rfl lmO rfl gnX12 (Nat.le_of_ble_eq_true rfl) kfX12_98 rfl ?_
          refine qr_iload (n := 72) 3 (dkX12_asks (i := 40) rfl) rfl rfl ?_
          refine qr_iald (n := 73) 27 260 (dkX12_asks (i := 41) rfl) rfl lmA_27 ?_
          refine qr_aload_n (n := 74) 0 (dkX12_asks (i := 42) rfl) rfl rfl ?_
          refine qr_geta (n := 77) 0 42 28 (dkX12_asks (i := 43) rfl) rfl lmO rfl gnX12 (Nat.le_of_ble_eq_true rfl) kfX12_101 rfl ?_
          refine qr_iload (n := 79) 3 (dkX12_asks (i := 44) rfl) rfl rfl ?_
          refine qr_iald (n := 80) 28 260 (dkX12_asks (i := 45) rfl) rfl lmA_28 ?_
          refine qr_cvm (n := 83) 0 [.int (S_4.1 27 (Int32.toNatClampNeg x5_3)), .int (S_4.1 28 (Int32.toNatClampNeg x5_3))] (dkX12_asks (i := 46) rfl) rfl kvX12_330 rfl rfl (Nat.le_of_ble_eq_true rfl) rfl rfl lmO rfl (wX12_termOf G S_4 (S_4.1 27 (Int32.toNatClampNeg x5_3)) (S_4.1 28 (Int32.toNatClampNeg x5_3))) (fun S_5 r_2 => ?_)
          refine qr_istore (n := 85) (lv2 := [(0, .ref (G.2.2.1 0)), (3, .int x3), (4, .int x4_1), (5, .int x5_3), (6, .int r_2)]) [1, 2, 3, 4, 0] (dkX12_asks (i := 47) rfl) rfl (by decide) rfl ?_
          refine qr_aload_n (n := 86) 0 (dkX12_asks (i := 48) rfl) rfl rfl ?_
          refine qr_aload_n (n := 87) 0 (dkX12_asks (i := 49) rfl) rfl rfl ?_
          refine qr_geta (n := 90) 0 42 28 (dkX12_asks (i := 50) rfl) rfl lmO rfl gnX12 (Nat.le_of_ble_eq_true rfl) kfX12_101 rfl ?_
          refine qr_iload (n := 92) 3 (dkX12_asks (i := 51) rfl) rfl rfl ?_
          refine qr_iald (n := 93) 28 260 (dkX12_asks (i := 52) rfl) rfl lmA_28 ?_
          refine qr_aload_n (n := 94) 0 (dkX12_asks (i := 53) rfl) rfl rfl ?_
          refine qr_geta (n := 97) 0 43 29 (dkX12_asks (i := 54) rfl) rfl lmO rfl gnX12 (Nat.le_of_ble_eq_true rfl) kfX12_104 rfl ?_
          refine qr_iload (n := 99) 3 (dkX12_asks (i := 55) rfl) rfl rfl ?_
          refine qr_iald (n := 100) 29 260 (dkX12_asks (i := 56) rfl) rfl lmA_29 ?_
          refine qr_cvm (n := 103) 0 [.int (S_5.1 28 (Int32.toNatClampNeg x5_3)), .int (S_5.1 29 (Int32.toNatClampNeg x5_3))] (dkX12_asks (i := 57) rfl) rfl kvX12_330 rfl rfl (Nat.le_of_ble_eq_true rfl) rfl rfl lmO rfl (wX12_termOf G S_5 (S_5.1 28 (Int32.toNatClampNeg x5_3)) (S_5.1 29 (Int32.toNatClampNeg x5_3))) (fun S_6 r_3 => ?_)
          refine qr_istore (n := 105) (lv2 := [(0, .ref (G.2.2.1 0)), (3, .int x3), (4, .int x4_1), (5, .int x5_3), (6, .int r_2), (7, .int r_3)]) [1, 2, 3, 4, 5, 0] (dkX12_asks (i := 58) rfl) rfl (by decide) rfl ?_
          refine qr_aload_n (n := 106) 0 (dkX12_asks (i := 59) rfl) rfl rfl ?_
          refine qr_geti (n := 109) 0 52 (dkX12_asks (i := 60) rfl) rfl lmO rfl gnX12 (Nat.le_of_ble_eq_true rfl) kfX12_315 rfl ?_
          refine qr_if_eq (t := 114) (n := 112) (dkX12_asks (i := 61) rfl) (by decide) rfl ?_ ?_
          · refine qr_iload (n := 116) 4 (dkX12_asks (i := 64) rfl) rfl rfl ?_
            refine qr_iload (n := 118) 5 (dkX12_asks (i := 65) rfl) rfl rfl ?_
            refine qr_icmp_lt (t := 124) (n := 121) (dkX12_asks (i := 66) rfl) (by decide) rfl ?_ ?_
            · refine qr_sub [0, 1, 3] rfl ?_
              exact hK_1 S_6 x5_3
            · refine qr_goto (n := 173) (dkX12_asks (i := 67) rfl) (by decide) ?_
              refine qr_iinc (n := 176) (v := 1) (lv2 := [(0, .ref (G.2.2.1 0)), (3, .int x3), (4, .int x4_1), (5, .int (x5_3 + 1)), (6, .int r_2), (7, .int r_3)]) 3 [1, 2, 3, 0, 4, 5] (dkX12_asks (i := 93) rfl) rfl rfl (by decide) (by decide) rfl ?_
              refine qr_goto (n := 43) (dkX12_asks (i := 94) rfl) (by decide) ?_
              refine qr_sub [0, 1, 2, 3] rfl ?_
              exact hself_1 S_6 (x5_3 + 1)
          · refine qr_iconst (n := 113) 0 (dkX12_asks (i := 62) rfl) rfl (by decide) ?_
            exact qr_iret (dkX12_asks (i := 63) rfl) rfl rfl
  · refine qr_iload_n (n := 28) 2 (dkX12_asks (i := 16) rfl) rfl rfl ?_
    exact qr_iret (dkX12_asks (i := 17) rfl) rfl rfl
def tbX12_lastBegun : List (Nat × Instr × Nat) := [(0, .aload_n 0, 1), (1, .getfield 56, 3), (4, .bipush 8, 2), (6, .aload_n 0, 1), (7, .getfield 242, 3), (10, .imul, 1), (11, .iload_n 1, 1), (12, .iadd, 1), (13, .iaload, 1), (14, .istore_n 3, 1), (15, .iload_n 2, 1), (16, .istore 4, 2), (18, .iload 4, 2), (20, .ifCond .lt 48, 3), (23, .iload 4, 2), (25, .iload_n 2, 1), (26, .iload_n 3, 1), (27, .isub, 1), (28, .if_icmp .le 40, 3), (31, .aload_n 0, 1), (32, .bipush 8, 2), (34, .iload 4, 2), (36, .imul, 1), (37, .iload_n 1, 1), (38, .iadd, 1), (39, .invokevirtual 333, 3), (42, .aload_n 0, 1), (43, .getfield 53, 3), (46, .bipush 8, 2), (48, .aload_n 0, 1), (49, .getfield 242, 3), (52, .imul, 1), (53, .iload_n 1, 1), (54, .iadd, 1), (55, .iaload, 1), (56, .if_icmp .ge 6, 3), (59, .iload 4, 2), (61, .ireturn, 1), (62, .iinc 4 (-1), 3), (65, .goto (-47), 3), (68, .iconst (-1), 1), (69, .ireturn, 1)]
set_option maxRecDepth 20000 in
theorem daX12_lastBegun : ∀ x ∈ tbX12_lastBegun, decode cX12_lastBegun x.1 = .ok x.2 := by decide +kernel
theorem dkX12_lastBegun {i pc n : Nat} {ins : Instr} (h : tbX12_lastBegun[i]? = some (pc, ins, n)) : decode cX12_lastBegun pc = .ok (ins, n) := daX12_lastBegun (pc, ins, n) (List.mem_of_getElem? h)
def fX12_lastBegun (S0 : qv_St) (x1 : Int32) (x2 : Int32) : Option Int32 :=
  qv_ck ((8 * (S0.1 0 18)) + x1) 16 <|
  qv_b ((S0.1 13 (Int32.toNatClampNeg ((8 * (S0.1 0 18)) + x1))) : Int32) fun x3_1 =>
  qv_lp1 qv_N (fun self_1 (x4_1 : Int32) =>
    if x4_1 < 0 then
      some (-1)
    else
      if x4_1 ≤ (x2 - x3_1) then
        some (-1)
      else
        (fX12_lotOf S0 ((8 * x4_1) + x1)).bind fun r_1 =>
        qv_ck ((8 * (S0.1 0 18)) + x1) 16 <|
        if (S0.1 12 (Int32.toNatClampNeg ((8 * (S0.1 0 18)) + x1))) ≤ r_1 then
          self_1 (x4_1 + (-1))
        else
          some x4_1) x2
set_option maxRecDepth 20000 in
set_option maxHeartbeats 4000000 in
theorem wX12_lastBegun (G : qv_GT) (S0 : qv_St) (x1 : Int32) (x2 : Int32) : ∀ r, fX12_lastBegun S0 x1 x2 = some r → Cn G Lm yX12_lastBegun cX12_lastBegun 5 (some .int) 3 [.ref (G.2.2.1 0), .int x1, .int x2] S0 ((qe_i S0) r) := by
  refine cn_of (own := RX12) (emb := (qe_i S0)) (lv := [(0, .ref (G.2.2.1 0)), (1, .int x1), (2, .int x2)]) rfl rfl (Nat.le_of_ble_eq_true rfl) rfl (fun X => ?_)
  unfold fX12_lastBegun
  refine qr_aload_n (n := 1) 0 (dkX12_lastBegun (i := 0) rfl) rfl rfl ?_
  refine qr_geta (n := 4) 0 26 13 (dkX12_lastBegun (i := 1) rfl) rfl lmO rfl gnX12 (Nat.le_of_ble_eq_true rfl) kfX12_56 rfl ?_
  refine qr_bipush (n := 6) 8 (dkX12_lastBegun (i := 2) rfl) rfl (by decide) ?_
  refine qr_aload_n (n := 7) 0 (dkX12_lastBegun (i := 3) rfl) rfl rfl ?_
  refine qr_geti (n := 10) 0 18 (dkX12_lastBegun (i := 4) rfl) rfl lmO rfl gnX12 (Nat.le_of_ble_eq_true rfl) kfX12_242 rfl ?_
  refine qr_imul (n := 11) (dkX12_lastBegun (i := 5) rfl) rfl ?_
  refine qr_iload_n (n := 12) 1 (dkX12_lastBegun (i := 6) rfl) rfl rfl ?_
  refine qr_iadd (n := 13) (dkX12_lastBegun (i := 7) rfl) rfl ?_
  refine qr_iald (n := 14) 13 16 (dkX12_lastBegun (i := 8) rfl) rfl lmA_13 ?_
  refine qr_b (α := Int32) (S0.1 13 (Int32.toNatClampNeg ((8 * (S0.1 0 18)) + x1))) (lvf := fun _ => [(0, .ref (G.2.2.1 0)), (1, .int x1), (2, .int x2)]) (stf := fun z => .int z :: []) (Sf := fun _ => S0) (fun x3_1 => ?_)
  refine qr_istore_n (n := 15) (lv2 := [(0, .ref (G.2.2.1 0)), (1, .int x1), (2, .int x2), (3, .int x3_1)]) [1, 2, 3, 0] (dkX12_lastBegun (i := 9) rfl) rfl rfl (by decide) rfl ?_
  refine qr_iload_n (n := 16) 2 (dkX12_lastBegun (i := 10) rfl) rfl rfl ?_
  refine qr_istore (n := 18) (lv2 := [(0, .ref (G.2.2.1 0)), (1, .int x1), (2, .int x2), (3, .int x3_1), (4, .int x2)]) [1, 2, 3, 4, 0] (dkX12_lastBegun (i := 11) rfl) rfl (by decide) rfl ?_
  refine qr_lp1 (fun (x4_1 : Int32) => [(0, .ref (G.2.2.1 0)), (1, .int x1), (2, .int x2), (3, .int x3_1), (4, .int x4_1)]) (fun (x4_1 : Int32) => S0) (fun self_1 hself_1 x4_1 => ?_) qv_N x2
  refine qr_iload (n := 20) 4 (dkX12_lastBegun (i := 12) rfl) rfl rfl ?_
  refine qr_if_lt (t := 68) (n := 23) (dkX12_lastBegun (i := 13) rfl) (by decide) rfl ?_ ?_
  · refine qr_iconst (n := 69) (-1) (dkX12_lastBegun (i := 40) rfl) rfl (by decide) ?_
    exact qr_iret (dkX12_lastBegun (i := 41) rfl) rfl rfl
  · refine qr_iload (n := 25) 4 (dkX12_lastBegun (i := 14) rfl) rfl rfl ?_
    refine qr_iload_n (n := 26) 2 (dkX12_lastBegun (i := 15) rfl) rfl rfl ?_
    refine qr_iload_n (n := 27) 3 (dkX12_lastBegun (i := 16) rfl) rfl rfl ?_
    refine qr_isub (n := 28) (dkX12_lastBegun (i := 17) rfl) rfl ?_
    refine qr_icmp_le (t := 68) (n := 31) (dkX12_lastBegun (i := 18) rfl) (by decide) rfl ?_ ?_
    · refine qr_iconst (n := 69) (-1) (dkX12_lastBegun (i := 40) rfl) rfl (by decide) ?_
      exact qr_iret (dkX12_lastBegun (i := 41) rfl) rfl rfl
    · refine qr_aload_n (n := 32) 0 (dkX12_lastBegun (i := 19) rfl) rfl rfl ?_
      refine qr_bipush (n := 34) 8 (dkX12_lastBegun (i := 20) rfl) rfl (by decide) ?_
      refine qr_iload (n := 36) 4 (dkX12_lastBegun (i := 21) rfl) rfl rfl ?_
      refine qr_imul (n := 37) (dkX12_lastBegun (i := 22) rfl) rfl ?_
      refine qr_iload_n (n := 38) 1 (dkX12_lastBegun (i := 23) rfl) rfl rfl ?_
      refine qr_iadd (n := 39) (dkX12_lastBegun (i := 24) rfl) rfl ?_
      refine qr_cvi (n := 42) 0 [.int ((8 * x4_1) + x1)] (dkX12_lastBegun (i := 25) rfl) rfl kvX12_333 rfl rfl (Nat.le_of_ble_eq_true rfl) rfl rfl lmO rfl (wX12_lotOf G S0 ((8 * x4_1) + x1)) (fun r_1 => ?_)
      refine qr_aload_n (n := 43) 0 (dkX12_lastBegun (i := 26) rfl) rfl rfl ?_
      refine qr_geta (n := 46) 0 25 12 (dkX12_lastBegun (i := 27) rfl) rfl lmO rfl gnX12 (Nat.le_of_ble_eq_true rfl) kfX12_53 rfl ?_
      refine qr_bipush (n := 48) 8 (dkX12_lastBegun (i := 28) rfl) rfl (by decide) ?_
      refine qr_aload_n (n := 49) 0 (dkX12_lastBegun (i := 29) rfl) rfl rfl ?_
      refine qr_geti (n := 52) 0 18 (dkX12_lastBegun (i := 30) rfl) rfl lmO rfl gnX12 (Nat.le_of_ble_eq_true rfl) kfX12_242 rfl ?_
      refine qr_imul (n := 53) (dkX12_lastBegun (i := 31) rfl) rfl ?_
      refine qr_iload_n (n := 54) 1 (dkX12_lastBegun (i := 32) rfl) rfl rfl ?_
      refine qr_iadd (n := 55) (dkX12_lastBegun (i := 33) rfl) rfl ?_
      refine qr_iald (n := 56) 12 16 (dkX12_lastBegun (i := 34) rfl) rfl lmA_12 ?_
      refine qr_icmp_ge (t := 62) (n := 59) (dkX12_lastBegun (i := 35) rfl) (by decide) rfl ?_ ?_
      · refine qr_iinc (n := 65) (v := (-1)) (lv2 := [(0, .ref (G.2.2.1 0)), (1, .int x1), (2, .int x2), (3, .int x3_1), (4, .int (x4_1 + (-1)))]) 4 [1, 2, 3, 4, 0] (dkX12_lastBegun (i := 38) rfl) rfl rfl (by decide) (by decide) rfl ?_
        refine qr_goto (n := 18) (dkX12_lastBegun (i := 39) rfl) (by decide) ?_
        exact hself_1 (x4_1 + (-1))
      · refine qr_iload (n := 61) 4 (dkX12_lastBegun (i := 36) rfl) rfl rfl ?_
        exact qr_iret (dkX12_lastBegun (i := 37) rfl) rfl rfl
def tbX12_ageOf : List (Nat × Instr × Nat) := [(0, .bipush 8, 2), (2, .aload_n 0, 1), (3, .getfield 242, 3), (6, .imul, 1), (7, .iload_n 1, 1), (8, .iadd, 1), (9, .istore_n 3, 1), (10, .aload_n 0, 1), (11, .getfield 46, 3), (14, .iload_n 3, 1), (15, .baload, 1), (16, .ifCond .ne 25, 3), (19, .aload_n 0, 1), (20, .iload_n 1, 1), (21, .iload_n 2, 1), (22, .invokevirtual 336, 3), (25, .istore 4, 2), (27, .iload 4, 2), (29, .ifCond .ge 7, 3), (32, .iconst (-1), 1), (33, .goto 7, 3), (36, .iload_n 2, 1), (37, .iload 4, 2), (39, .isub, 1), (40, .ireturn, 1), (41, .iload_n 2, 1), (42, .aload_n 0, 1), (43, .getfield 50, 3), (46, .iload_n 3, 1), (47, .iaload, 1), (48, .if_icmp .ge 5, 3), (51, .iconst (-1), 1), (52, .ireturn, 1), (53, .iload_n 2, 1), (54, .aload_n 0, 1), (55, .getfield 50, 3), (58, .iload_n 3, 1), (59, .iaload, 1), (60, .isub, 1), (61, .aload_n 0, 1), (62, .getfield 53, 3), (65, .iload_n 3, 1), (66, .iaload, 1), (67, .irem, 1), (68, .istore 4, 2), (70, .iload 4, 2), (72, .aload_n 0, 1), (73, .getfield 56, 3), (76, .iload_n 3, 1), (77, .iaload, 1), (78, .if_icmp .ge 8, 3), (81, .iload 4, 2), (83, .goto 4, 3), (86, .iconst (-1), 1), (87, .ireturn, 1)]
set_option maxRecDepth 20000 in
theorem daX12_ageOf : ∀ x ∈ tbX12_ageOf, decode cX12_ageOf x.1 = .ok x.2 := by decide +kernel
theorem dkX12_ageOf {i pc n : Nat} {ins : Instr} (h : tbX12_ageOf[i]? = some (pc, ins, n)) : decode cX12_ageOf pc = .ok (ins, n) := daX12_ageOf (pc, ins, n) (List.mem_of_getElem? h)
def fX12_ageOf (S0 : qv_St) (x1 : Int32) (x2 : Int32) : Option Int32 :=
  qv_b (((8 * (S0.1 0 18)) + x1) : Int32) fun x3_1 =>
  qv_ck x3_1 16 <|
  if (S0.1 10 (Int32.toNatClampNeg x3_1)) = 0 then
    (fX12_lastBegun S0 x1 x2).bind fun r_1 =>
    if 0 ≤ r_1 then
      some (x2 - r_1)
    else
      some (-1)
  else
    qv_ck x3_1 16 <|
    if (S0.1 11 (Int32.toNatClampNeg x3_1)) ≤ x2 then
      qv_ck x3_1 16 <|
      qv_ck x3_1 16 <|
      qv_nz (S0.1 12 (Int32.toNatClampNeg x3_1)) <|
      qv_b (((x2 - (S0.1 11 (Int32.toNatClampNeg x3_1))) - (x2 - (S0.1 11 (Int32.toNatClampNeg x3_1))) / (S0.1 12 (Int32.toNatClampNeg x3_1)) * (S0.1 12 (Int32.toNatClampNeg x3_1))) : Int32) fun x4_1 =>
      qv_ck x3_1 16 <|
      if (S0.1 13 (Int32.toNatClampNeg x3_1)) ≤ x4_1 then
        some (-1)
      else
        some x4_1
    else
      some (-1)
set_option maxRecDepth 20000 in
set_option maxHeartbeats 4000000 in
theorem wX12_ageOf (G : qv_GT) (S0 : qv_St) (x1 : Int32) (x2 : Int32) : ∀ r, fX12_ageOf S0 x1 x2 = some r → Cn G Lm yX12_ageOf cX12_ageOf 5 (some .int) 4 [.ref (G.2.2.1 0), .int x1, .int x2] S0 ((qe_i S0) r) := by
  refine cn_of (own := RX12) (emb := (qe_i S0)) (lv := [(0, .ref (G.2.2.1 0)), (1, .int x1), (2, .int x2)]) rfl rfl (Nat.le_of_ble_eq_true rfl) rfl (fun X => ?_)
  unfold fX12_ageOf
  refine qr_bipush (n := 2) 8 (dkX12_ageOf (i := 0) rfl) rfl (by decide) ?_
  refine qr_aload_n (n := 3) 0 (dkX12_ageOf (i := 1) rfl) rfl rfl ?_
  refine qr_geti (n := 6) 0 18 (dkX12_ageOf (i := 2) rfl) rfl lmO rfl gnX12 (Nat.le_of_ble_eq_true rfl) kfX12_242 rfl ?_
  refine qr_imul (n := 7) (dkX12_ageOf (i := 3) rfl) rfl ?_
  refine qr_iload_n (n := 8) 1 (dkX12_ageOf (i := 4) rfl) rfl rfl ?_
  refine qr_iadd (n := 9) (dkX12_ageOf (i := 5) rfl) rfl ?_
  refine qr_b (α := Int32) ((8 * (S0.1 0 18)) + x1) (lvf := fun _ => [(0, .ref (G.2.2.1 0)), (1, .int x1), (2, .int x2)]) (stf := fun z => .int z :: []) (Sf := fun _ => S0) (fun x3_1 => ?_)
  refine qr_istore_n (n := 10) (lv2 := [(0, .ref (G.2.2.1 0)), (1, .int x1), (2, .int x2), (3, .int x3_1)]) [1, 2, 3, 0] (dkX12_ageOf (i := 6) rfl) rfl rfl (by decide) rfl ?_
  refine qr_aload_n (n := 11) 0 (dkX12_ageOf (i := 7) rfl) rfl rfl ?_
  refine qr_geta (n := 14) 0 23 10 (dkX12_ageOf (i := 8) rfl) rfl lmO rfl gnX12 (Nat.le_of_ble_eq_true rfl) kfX12_46 rfl ?_
  refine qr_iload_n (n := 15) 3 (dkX12_ageOf (i := 9) rfl) rfl rfl ?_
  refine qr_zald (n := 16) 10 16 (dkX12_ageOf (i := 10) rfl) rfl lmA_10 ?_
  refine qr_if_ne (t := 41) (n := 19) (dkX12_ageOf (i := 11) rfl) (by decide) rfl ?_ ?_
  · refine qr_iload_n (n := 42) 2 (dkX12_ageOf (i := 25) rfl) rfl rfl ?_
    refine qr_aload_n (n := 43) 0 (dkX12_ageOf (i := 26) rfl) rfl rfl ?_
    refine qr_geta (n := 46) 0 24 11 (dkX12_ageOf (i := 27) rfl) rfl lmO rfl gnX12 (Nat.le_of_ble_eq_true rfl) kfX12_50 rfl ?_
    refine qr_iload_n (n := 47) 3 (dkX12_ageOf (i := 28) rfl) rfl rfl ?_
    refine qr_iald (n := 48) 11 16 (dkX12_ageOf (i := 29) rfl) rfl lmA_11 ?_
    refine qr_icmp_ge (t := 53) (n := 51) (dkX12_ageOf (i := 30) rfl) (by decide) rfl ?_ ?_
    · refine qr_iload_n (n := 54) 2 (dkX12_ageOf (i := 33) rfl) rfl rfl ?_
      refine qr_aload_n (n := 55) 0 (dkX12_ageOf (i := 34) rfl) rfl rfl ?_
      refine qr_geta (n := 58) 0 24 11 (dkX12_ageOf (i := 35) rfl) rfl lmO rfl gnX12 (Nat.le_of_ble_eq_true rfl) kfX12_50 rfl ?_
      refine qr_iload_n (n := 59) 3 (dkX12_ageOf (i := 36) rfl) rfl rfl ?_
      refine qr_iald (n := 60) 11 16 (dkX12_ageOf (i := 37) rfl) rfl lmA_11 ?_
      refine qr_isub (n := 61) (dkX12_ageOf (i := 38) rfl) rfl ?_
      refine qr_aload_n (n := 62) 0 (dkX12_ageOf (i := 39) rfl) rfl rfl ?_
      refine qr_geta (n := 65) 0 25 12 (dkX12_ageOf (i := 40) rfl) rfl lmO rfl gnX12 (Nat.le_of_ble_eq_true rfl) kfX12_53 rfl ?_
      refine qr_iload_n (n := 66) 3 (dkX12_ageOf (i := 41) rfl) rfl rfl ?_
      refine qr_iald (n := 67) 12 16 (dkX12_ageOf (i := 42) rfl) rfl lmA_12 ?_
      refine qr_irem (n := 68) (dkX12_ageOf (i := 43) rfl) rfl ?_
      refine qr_b (α := Int32) ((x2 - (S0.1 11 (Int32.toNatClampNeg x3_1))) - (x2 - (S0.1 11 (Int32.toNatClampNeg x3_1))) / (S0.1 12 (Int32.toNatClampNeg x3_1)) * (S0.1 12 (Int32.toNatClampNeg x3_1))) (lvf := fun _ => [(0, .ref (G.2.2.1 0)), (1, .int x1), (2, .int x2), (3, .int x3_1)]) (stf := fun z => .int z :: []) (Sf := fun _ => S0) (fun x4_1 => ?_)
      refine qr_istore (n := 70) (lv2 := [(0, .ref (G.2.2.1 0)), (1, .int x1), (2, .int x2), (3, .int x3_1), (4, .int x4_1)]) [1, 2, 3, 4, 0] (dkX12_ageOf (i := 44) rfl) rfl (by decide) rfl ?_
      refine qr_iload (n := 72) 4 (dkX12_ageOf (i := 45) rfl) rfl rfl ?_
      refine qr_aload_n (n := 73) 0 (dkX12_ageOf (i := 46) rfl) rfl rfl ?_
      refine qr_geta (n := 76) 0 26 13 (dkX12_ageOf (i := 47) rfl) rfl lmO rfl gnX12 (Nat.le_of_ble_eq_true rfl) kfX12_56 rfl ?_
      refine qr_iload_n (n := 77) 3 (dkX12_ageOf (i := 48) rfl) rfl rfl ?_
      refine qr_iald (n := 78) 13 16 (dkX12_ageOf (i := 49) rfl) rfl lmA_13 ?_
      refine qr_icmp_ge (t := 86) (n := 81) (dkX12_ageOf (i := 50) rfl) (by decide) rfl ?_ ?_
      · refine qr_iconst (n := 87) (-1) (dkX12_ageOf (i := 53) rfl) rfl (by decide) ?_
        exact qr_iret (dkX12_ageOf (i := 54) rfl) rfl rfl
      · refine qr_iload (n := 83) 4 (dkX12_ageOf (i := 51) rfl) rfl rfl ?_
        refine qr_goto (n := 87) (dkX12_ageOf (i := 52) rfl) (by decide) ?_
        exact qr_iret (dkX12_ageOf (i := 54) rfl) rfl rfl
    · refine qr_iconst (n := 52) (-1) (dkX12_ageOf (i := 31) rfl) rfl (by decide) ?_
      exact qr_iret (dkX12_ageOf (i := 32) rfl) rfl rfl
  · refine qr_aload_n (n := 20) 0 (dkX12_ageOf (i := 12) rfl) rfl rfl ?_
    refine qr_iload_n (n := 21) 1 (dkX12_ageOf (i := 13) rfl) rfl rfl ?_
    refine qr_iload_n (n := 22) 2 (dkX12_ageOf (i := 14) rfl) rfl rfl ?_
    refine qr_cvi (n := 25) 0 [.int x1, .int x2] (dkX12_ageOf (i := 15) rfl) rfl kvX12_336 rfl rfl (Nat.le_of_ble_eq_true rfl) rfl rfl lmO rfl (wX12_lastBegun G S0 x1 x2) (fun r_1 => ?_)
    refine qr_istore (n := 27) (lv2 := [(0, .ref (G.2.2.1 0)), (1, .int x1), (2, .int x2), (3, .int x3_1), (4, .int r_1)]) [1, 2, 3, 4, 0] (dkX12_ageOf (i := 16) rfl) rfl (by decide) rfl ?_
    refine qr_iload (n := 29) 4 (dkX12_ageOf (i := 17) rfl) rfl rfl ?_
    refine qr_if_ge (t := 36) (n := 32) (dkX12_ageOf (i := 18) rfl) (by decide) rfl ?_ ?_
    · refine qr_iload_n (n := 37) 2 (dkX12_ageOf (i := 21) rfl) rfl rfl ?_
      refine qr_iload (n := 39) 4 (dkX12_ageOf (i := 22) rfl) rfl rfl ?_
      refine qr_isub (n := 40) (dkX12_ageOf (i := 23) rfl) rfl ?_
      exact qr_iret (dkX12_ageOf (i := 24) rfl) rfl rfl
    · refine qr_iconst (n := 33) (-1) (dkX12_ageOf (i := 19) rfl) rfl (by decide) ?_
      refine qr_goto (n := 40) (dkX12_ageOf (i := 20) rfl) (by decide) ?_
      exact qr_iret (dkX12_ageOf (i := 24) rfl) rfl rfl
def tbX12_ageNow : List (Nat × Instr × Nat) := [(0, .aload_n 0, 1), (1, .getfield 128, 3), (4, .iconst 4, 1), (5, .iload_n 1, 1), (6, .iadd, 1), (7, .iaload, 1), (8, .iload_n 2, 1), (9, .if_icmp .le 7, 3), (12, .iconst (-1), 1), (13, .goto 9, 3), (16, .aload_n 0, 1), (17, .iload_n 1, 1), (18, .iload_n 2, 1), (19, .invokevirtual 339, 3), (22, .ireturn, 1)]
set_option maxRecDepth 20000 in
theorem daX12_ageNow : ∀ x ∈ tbX12_ageNow, decode cX12_ageNow x.1 = .ok x.2 := by decide +kernel
theorem dkX12_ageNow {i pc n : Nat} {ins : Instr} (h : tbX12_ageNow[i]? = some (pc, ins, n)) : decode cX12_ageNow pc = .ok (ins, n) := daX12_ageNow (pc, ins, n) (List.mem_of_getElem? h)
def fX12_ageNow (S0 : qv_St) (x1 : Int32) (x2 : Int32) : Option Int32 :=
  qv_ck (4 + x1) 32 <|
  if (S0.1 37 (Int32.toNatClampNeg (4 + x1))) ≤ x2 then
    (fX12_ageOf S0 x1 x2).bind fun r_1 =>
    some r_1
  else
    some (-1)
set_option maxRecDepth 20000 in
set_option maxHeartbeats 4000000 in
theorem wX12_ageNow (G : qv_GT) (S0 : qv_St) (x1 : Int32) (x2 : Int32) : ∀ r, fX12_ageNow S0 x1 x2 = some r → Cn G Lm yX12_ageNow cX12_ageNow 3 (some .int) 5 [.ref (G.2.2.1 0), .int x1, .int x2] S0 ((qe_i S0) r) := by
  refine cn_of (own := RX12) (emb := (qe_i S0)) (lv := [(0, .ref (G.2.2.1 0)), (1, .int x1), (2, .int x2)]) rfl rfl (Nat.le_of_ble_eq_true rfl) rfl (fun X => ?_)
  unfold fX12_ageNow
  refine qr_aload_n (n := 1) 0 (dkX12_ageNow (i := 0) rfl) rfl rfl ?_
  refine qr_geta (n := 4) 0 54 37 (dkX12_ageNow (i := 1) rfl) rfl lmO rfl gnX12 (Nat.le_of_ble_eq_true rfl) kfX12_128 rfl ?_
  refine qr_iconst (n := 5) 4 (dkX12_ageNow (i := 2) rfl) rfl (by decide) ?_
  refine qr_iload_n (n := 6) 1 (dkX12_ageNow (i := 3) rfl) rfl rfl ?_
  refine qr_iadd (n := 7) (dkX12_ageNow (i := 4) rfl) rfl ?_
  refine qr_iald (n := 8) 37 32 (dkX12_ageNow (i := 5) rfl) rfl lmA_37 ?_
  refine qr_iload_n (n := 9) 2 (dkX12_ageNow (i := 6) rfl) rfl rfl ?_
  refine qr_icmp_le (t := 16) (n := 12) (dkX12_ageNow (i := 7) rfl) (by decide) rfl ?_ ?_
  · refine qr_aload_n (n := 17) 0 (dkX12_ageNow (i := 10) rfl) rfl rfl ?_
    refine qr_iload_n (n := 18) 1 (dkX12_ageNow (i := 11) rfl) rfl rfl ?_
    refine qr_iload_n (n := 19) 2 (dkX12_ageNow (i := 12) rfl) rfl rfl ?_
    refine qr_cvi (n := 22) 0 [.int x1, .int x2] (dkX12_ageNow (i := 13) rfl) rfl kvX12_339 rfl rfl (Nat.le_of_ble_eq_true rfl) rfl rfl lmO rfl (wX12_ageOf G S0 x1 x2) (fun r_1 => ?_)
    exact qr_iret (dkX12_ageNow (i := 14) rfl) rfl rfl
  · refine qr_iconst (n := 13) (-1) (dkX12_ageNow (i := 8) rfl) rfl (by decide) ?_
    refine qr_goto (n := 22) (dkX12_ageNow (i := 9) rfl) (by decide) ?_
    exact qr_iret (dkX12_ageNow (i := 14) rfl) rfl rfl
def tbX12_heardBy : List (Nat × Instr × Nat) := [(0, .iload 4, 2), (2, .ifCond .ge 5, 3), (5, .iconst 0, 1), (6, .ireturn, 1), (7, .bipush 8, 2), (9, .aload_n 0, 1), (10, .getfield 242, 3), (13, .imul, 1), (14, .iload_n 1, 1), (15, .iadd, 1), (16, .istore 5, 2), (18, .aload_n 0, 1), (19, .iload_n 3, 1), (20, .invokevirtual 342, 3), (23, .aload_n 0, 1), (24, .getfield 119, 3), (27, .iconst 0, 1), (28, .aload_n 0, 1), (29, .getfield 59, 3), (32, .iload 5, 2), (34, .iaload, 1), (35, .iastore, 1), (36, .aload_n 0, 1), (37, .getfield 119, 3), (40, .iconst 1, 1), (41, .iload 4, 2), (43, .iastore, 1), (44, .aload_n 0, 1), (45, .getfield 119, 3), (48, .iconst 2, 1), (49, .aload_n 0, 1), (50, .getfield 56, 3), (53, .iload 5, 2), (55, .iaload, 1), (56, .iastore, 1), (57, .aload_n 0, 1), (58, .getfield 119, 3), (61, .iconst 3, 1), (62, .aload_n 0, 1), (63, .getfield 68, 3), (66, .iconst 4, 1), (67, .aload_n 0, 1), (68, .getfield 242, 3), (71, .imul, 1), (72, .iload_n 2, 1), (73, .iadd, 1), (74, .iaload, 1), (75, .iastore, 1), (76, .aload_n 0, 1), (77, .getfield 119, 3), (80, .bipush 7, 2), (82, .iload_n 1, 1), (83, .iastore, 1), (84, .aload_n 0, 1), (85, .iconst 0, 1), (86, .aload_n 0, 1), (87, .getfield 59, 3), (90, .iload 5, 2), (92, .iaload, 1), (93, .bipush 99, 2), (95, .invokevirtual 345, 3), (98, .ireturn, 1)]
set_option maxRecDepth 20000 in
theorem daX12_heardBy : ∀ x ∈ tbX12_heardBy, decode cX12_heardBy x.1 = .ok x.2 := by decide +kernel
theorem dkX12_heardBy {i pc n : Nat} {ins : Instr} (h : tbX12_heardBy[i]? = some (pc, ins, n)) : decode cX12_heardBy pc = .ok (ins, n) := daX12_heardBy (pc, ins, n) (List.mem_of_getElem? h)
def fX12_heardBy (S0 : qv_St) (x1 : Int32) (x2 : Int32) (x3 : Int32) (x4 : Int32) : Option (qv_St × Int32) :=
  if 0 ≤ x4 then
    qv_b (((8 * (S0.1 0 18)) + x1) : Int32) fun x5_1 =>
    (fX12_looks S0 x3).bind fun S_1 =>
    qv_ck x5_1 16 <|
    qv_ck 0 9 <| qv_b (qv_si S_1 34 (Int32.toNatClampNeg 0) (S_1.1 14 (Int32.toNatClampNeg x5_1))) fun S_2 =>
    qv_ck 1 9 <| qv_b (qv_si S_2 34 (Int32.toNatClampNeg 1) x4) fun S_3 =>
    qv_ck x5_1 16 <|
    qv_ck 2 9 <| qv_b (qv_si S_3 34 (Int32.toNatClampNeg 2) (S_3.1 13 (Int32.toNatClampNeg x5_1))) fun S_4 =>
    qv_ck ((4 * (S_4.1 0 18)) + x2) 8 <|
    qv_ck 3 9 <| qv_b (qv_si S_4 34 (Int32.toNatClampNeg 3) (S_4.1 17 (Int32.toNatClampNeg ((4 * (S_4.1 0 18)) + x2)))) fun S_5 =>
    qv_ck 7 9 <| qv_b (qv_si S_5 34 (Int32.toNatClampNeg 7) x1) fun S_6 =>
    qv_ck x5_1 16 <|
    qv_cm (fX12_asks S_6 0 (S_6.1 14 (Int32.toNatClampNeg x5_1)) 99) fun S_7 r_1 =>
    some (S_7, r_1)
  else
    some (S0, 0)
set_option maxRecDepth 20000 in
set_option maxHeartbeats 4000000 in
theorem wX12_heardBy (G : qv_GT) (S0 : qv_St) (x1 : Int32) (x2 : Int32) (x3 : Int32) (x4 : Int32) : ∀ r, fX12_heardBy S0 x1 x2 x3 x4 = some r → Cn G Lm yX12_heardBy cX12_heardBy 6 (some .int) 3 [.ref (G.2.2.1 0), .int x1, .int x2, .int x3, .int x4] S0 (qe_m r) := by
  refine cn_of (own := RX12) (emb := qe_m) (lv := [(0, .ref (G.2.2.1 0)), (1, .int x1), (2, .int x2), (3, .int x3), (4, .int x4)]) rfl rfl (Nat.le_of_ble_eq_true rfl) rfl (fun X => ?_)
  unfold fX12_heardBy
  refine qr_iload (n := 2) 4 (dkX12_heardBy (i := 0) rfl) rfl rfl ?_
  refine qr_if_ge (t := 7) (n := 5) (dkX12_heardBy (i := 1) rfl) (by decide) rfl ?_ ?_
  · refine qr_bipush (n := 9) 8 (dkX12_heardBy (i := 4) rfl) rfl (by decide) ?_
    refine qr_aload_n (n := 10) 0 (dkX12_heardBy (i := 5) rfl) rfl rfl ?_
    refine qr_geti (n := 13) 0 18 (dkX12_heardBy (i := 6) rfl) rfl lmO rfl gnX12 (Nat.le_of_ble_eq_true rfl) kfX12_242 rfl ?_
    refine qr_imul (n := 14) (dkX12_heardBy (i := 7) rfl) rfl ?_
    refine qr_iload_n (n := 15) 1 (dkX12_heardBy (i := 8) rfl) rfl rfl ?_
    refine qr_iadd (n := 16) (dkX12_heardBy (i := 9) rfl) rfl ?_
    refine qr_b (α := Int32) ((8 * (S0.1 0 18)) + x1) (lvf := fun _ => [(0, .ref (G.2.2.1 0)), (1, .int x1), (2, .int x2), (3, .int x3), (4, .int x4)]) (stf := fun z => .int z :: []) (Sf := fun _ => S0) (fun x5_1 => ?_)
    refine qr_istore (n := 18) (lv2 := [(0, .ref (G.2.2.1 0)), (1, .int x1), (2, .int x2), (3, .int x3), (4, .int x4), (5, .int x5_1)]) [1, 2, 3, 4, 5, 0] (dkX12_heardBy (i := 10) rfl) rfl (by decide) rfl ?_
    refine qr_aload_n (n := 19) 0 (dkX12_heardBy (i := 11) rfl) rfl rfl ?_
    refine qr_iload_n (n := 20) 3 (dkX12_heardBy (i := 12) rfl) rfl rfl ?_
    refine qr_cvu (n := 23) 0 [.int x3] (dkX12_heardBy (i := 13) rfl) rfl kvX12_342 rfl rfl (Nat.le_of_ble_eq_true rfl) rfl rfl lmO rfl (wX12_looks G S0 x3) (fun S_1 => ?_)
    refine qr_aload_n (n := 24) 0 (dkX12_heardBy (i := 14) rfl) rfl rfl ?_
    refine qr_geta (n := 27) 0 50 34 (dkX12_heardBy (i := 15) rfl) rfl lmO rfl gnX12 (Nat.le_of_ble_eq_true rfl) kfX12_119 rfl ?_
    refine qr_iconst (n := 28) 0 (dkX12_heardBy (i := 16) rfl) rfl (by decide) ?_
    refine qr_aload_n (n := 29) 0 (dkX12_heardBy (i := 17) rfl) rfl rfl ?_
    refine qr_geta (n := 32) 0 27 14 (dkX12_heardBy (i := 18) rfl) rfl lmO rfl gnX12 (Nat.le_of_ble_eq_true rfl) kfX12_59 rfl ?_
    refine qr_iload (n := 34) 5 (dkX12_heardBy (i := 19) rfl) rfl rfl ?_
    refine qr_iald (n := 35) 14 16 (dkX12_heardBy (i := 20) rfl) rfl lmA_14 ?_
    refine qr_iast (n := 36) 34 9 (dkX12_heardBy (i := 21) rfl) rfl lmA_34 (fun S_2 => ?_)
    refine qr_aload_n (n := 37) 0 (dkX12_heardBy (i := 22) rfl) rfl rfl ?_
    refine qr_geta (n := 40) 0 50 34 (dkX12_heardBy (i := 23) rfl) rfl lmO rfl gnX12 (Nat.le_of_ble_eq_true rfl) kfX12_119 rfl ?_
    refine qr_iconst (n := 41) 1 (dkX12_heardBy (i := 24) rfl) rfl (by decide) ?_
    refine qr_iload (n := 43) 4 (dkX12_heardBy (i := 25) rfl) rfl rfl ?_
    refine qr_iast (n := 44) 34 9 (dkX12_heardBy (i := 26) rfl) rfl lmA_34 (fun S_3 => ?_)
    refine qr_aload_n (n := 45) 0 (dkX12_heardBy (i := 27) rfl) rfl rfl ?_
    refine qr_geta (n := 48) 0 50 34 (dkX12_heardBy (i := 28) rfl) rfl lmO rfl gnX12 (Nat.le_of_ble_eq_true rfl) kfX12_119 rfl ?_
    refine qr_iconst (n := 49) 2 (dkX12_heardBy (i := 29) rfl) rfl (by decide) ?_
    refine qr_aload_n (n := 50) 0 (dkX12_heardBy (i := 30) rfl) rfl rfl ?_
    refine qr_geta (n := 53) 0 26 13 (dkX12_heardBy (i := 31) rfl) rfl lmO rfl gnX12 (Nat.le_of_ble_eq_true rfl) kfX12_56 rfl ?_
    refine qr_iload (n := 55) 5 (dkX12_heardBy (i := 32) rfl) rfl rfl ?_
    refine qr_iald (n := 56) 13 16 (dkX12_heardBy (i := 33) rfl) rfl lmA_13 ?_
    refine qr_iast (n := 57) 34 9 (dkX12_heardBy (i := 34) rfl) rfl lmA_34 (fun S_4 => ?_)
    refine qr_aload_n (n := 58) 0 (dkX12_heardBy (i := 35) rfl) rfl rfl ?_
    refine qr_geta (n := 61) 0 50 34 (dkX12_heardBy (i := 36) rfl) rfl lmO rfl gnX12 (Nat.le_of_ble_eq_true rfl) kfX12_119 rfl ?_
    refine qr_iconst (n := 62) 3 (dkX12_heardBy (i := 37) rfl) rfl (by decide) ?_
    refine qr_aload_n (n := 63) 0 (dkX12_heardBy (i := 38) rfl) rfl rfl ?_
    refine qr_geta (n := 66) 0 30 17 (dkX12_heardBy (i := 39) rfl) rfl lmO rfl gnX12 (Nat.le_of_ble_eq_true rfl) kfX12_68 rfl ?_
    refine qr_iconst (n := 67) 4 (dkX12_heardBy (i := 40) rfl) rfl (by decide) ?_
    refine qr_aload_n (n := 68) 0 (dkX12_heardBy (i := 41) rfl) rfl rfl ?_
    refine qr_geti (n := 71) 0 18 (dkX12_heardBy (i := 42) rfl) rfl lmO rfl gnX12 (Nat.le_of_ble_eq_true rfl) kfX12_242 rfl ?_
    refine qr_imul (n := 72) (dkX12_heardBy (i := 43) rfl) rfl ?_
    refine qr_iload_n (n := 73) 2 (dkX12_heardBy (i := 44) rfl) rfl rfl ?_
    refine qr_iadd (n := 74) (dkX12_heardBy (i := 45) rfl) rfl ?_
    refine qr_iald (n := 75) 17 8 (dkX12_heardBy (i := 46) rfl) rfl lmA_17 ?_
    refine qr_iast (n := 76) 34 9 (dkX12_heardBy (i := 47) rfl) rfl lmA_34 (fun S_5 => ?_)
    refine qr_aload_n (n := 77) 0 (dkX12_heardBy (i := 48) rfl) rfl rfl ?_
    refine qr_geta (n := 80) 0 50 34 (dkX12_heardBy (i := 49) rfl) rfl lmO rfl gnX12 (Nat.le_of_ble_eq_true rfl) kfX12_119 rfl ?_
    refine qr_bipush (n := 82) 7 (dkX12_heardBy (i := 50) rfl) rfl (by decide) ?_
    refine qr_iload_n (n := 83) 1 (dkX12_heardBy (i := 51) rfl) rfl rfl ?_
    refine qr_iast (n := 84) 34 9 (dkX12_heardBy (i := 52) rfl) rfl lmA_34 (fun S_6 => ?_)
    refine qr_aload_n (n := 85) 0 (dkX12_heardBy (i := 53) rfl) rfl rfl ?_
    refine qr_iconst (n := 86) 0 (dkX12_heardBy (i := 54) rfl) rfl (by decide) ?_
    refine qr_aload_n (n := 87) 0 (dkX12_heardBy (i := 55) rfl) rfl rfl ?_
    refine qr_geta (n := 90) 0 27 14 (dkX12_heardBy (i := 56) rfl) rfl lmO rfl gnX12 (Nat.le_of_ble_eq_true rfl) kfX12_59 rfl ?_
    refine qr_iload (n := 92) 5 (dkX12_heardBy (i := 57) rfl) rfl rfl ?_
    refine qr_iald (n := 93) 14 16 (dkX12_heardBy (i := 58) rfl) rfl lmA_14 ?_
    refine qr_bipush (n := 95) 99 (dkX12_heardBy (i := 59) rfl) rfl (by decide) ?_
    refine qr_cvm (n := 98) 0 [.int 0, .int (S_6.1 14 (Int32.toNatClampNeg x5_1)), .int 99] (dkX12_heardBy (i := 60) rfl) rfl kvX12_345 rfl rfl (Nat.le_of_ble_eq_true rfl) rfl rfl lmO rfl (wX12_asks G S_6 0 (S_6.1 14 (Int32.toNatClampNeg x5_1)) 99) (fun S_7 r_1 => ?_)
    exact qr_iret (dkX12_heardBy (i := 61) rfl) rfl rfl
  · refine qr_iconst (n := 6) 0 (dkX12_heardBy (i := 2) rfl) rfl (by decide) ?_
    exact qr_iret (dkX12_heardBy (i := 3) rfl) rfl rfl
