def tbX12_ends : List (Nat × Instr × Nat) := [(0, .aload_n 0, 1), (1, .iconst 4, 1), (2, .invokevirtual 288, 3), (5, .aload_n 0, 1), (6, .getfield 212, 3), (9, .ifCond .le 4, 3), (12, .return_, 1), (13, .aload_n 0, 1), (14, .getfield 40, 3), (17, .aload_n 0, 1), (18, .getfield 248, 3), (21, .aload_n 0, 1), (22, .getfield 30, 3), (25, .iload_n 1, 1), (26, .laload, 1), (27, .lastore, 1), (28, .aload_n 0, 1), (29, .dup, 1), (30, .getfield 248, 3), (33, .iconst 1, 1), (34, .iadd, 1), (35, .putfield 248, 3), (38, .return_, 1)]
set_option maxRecDepth 20000 in
theorem daX12_ends : ∀ x ∈ tbX12_ends, decode cX12_ends x.1 = .ok x.2 := by decide +kernel
theorem dkX12_ends {i pc n : Nat} {ins : Instr} (h : tbX12_ends[i]? = some (pc, ins, n)) : decode cX12_ends pc = .ok (ins, n) := daX12_ends (pc, ins, n) (List.mem_of_getElem? h)
def fX12_ends (S0 : qv_St) (x1 : Int32) : Option qv_St :=
  (fX12_must S0 4).bind fun S_1 =>
  if (S_1.1 0 13) ≤ 0 then
    qv_ck x1 403 <|
    qv_ck (S_1.1 0 20) 18 <| qv_b (qv_sl S_1 8 (Int32.toNatClampNeg (S_1.1 0 20)) (S_1.2 6 (Int32.toNatClampNeg x1))) fun S_2 =>
    qv_b (qv_si S_2 0 20 ((S_2.1 0 20) + 1)) fun S_3 =>
    some S_3
  else
    some S_1
set_option maxRecDepth 20000 in
set_option maxHeartbeats 4000000 in
theorem wX12_ends (G : qv_GT) (S0 : qv_St) (x1 : Int32) : ∀ r, fX12_ends S0 x1 = some r → Cn G Lm yX12_ends cX12_ends 2 none 4 [.ref (G.2.2.1 0), .int x1] S0 (qe_u r) := by
  refine cn_of (own := RX12) (emb := qe_u) (lv := [(0, .ref (G.2.2.1 0)), (1, .int x1)]) rfl rfl (Nat.le_of_ble_eq_true rfl) rfl (fun X => ?_)
  unfold fX12_ends
  refine qr_aload_n (n := 1) 0 (dkX12_ends (i := 0) rfl) rfl rfl ?_
  refine qr_iconst (n := 2) 4 (dkX12_ends (i := 1) rfl) rfl (by decide) ?_
  refine qr_cvu (n := 5) 0 [.int 4] (dkX12_ends (i := 2) rfl) rfl kvX12_288 rfl rfl (Nat.le_of_ble_eq_true rfl) rfl rfl lmO rfl (wX12_must G S0 4) (fun S_1 => ?_)
  refine qr_aload_n (n := 6) 0 (dkX12_ends (i := 3) rfl) rfl rfl ?_
  refine qr_geti (n := 9) 0 13 (dkX12_ends (i := 4) rfl) rfl lmO rfl gnX12 (Nat.le_of_ble_eq_true rfl) kfX12_212 rfl ?_
  refine qr_if_le (t := 13) (n := 12) (dkX12_ends (i := 5) rfl) (by decide) rfl ?_ ?_
  · refine qr_aload_n (n := 14) 0 (dkX12_ends (i := 7) rfl) rfl rfl ?_
    refine qr_geta (n := 17) 0 21 8 (dkX12_ends (i := 8) rfl) rfl lmO rfl gnX12 (Nat.le_of_ble_eq_true rfl) kfX12_40 rfl ?_
    refine qr_aload_n (n := 18) 0 (dkX12_ends (i := 9) rfl) rfl rfl ?_
    refine qr_geti (n := 21) 0 20 (dkX12_ends (i := 10) rfl) rfl lmO rfl gnX12 (Nat.le_of_ble_eq_true rfl) kfX12_248 rfl ?_
    refine qr_aload_n (n := 22) 0 (dkX12_ends (i := 11) rfl) rfl rfl ?_
    refine qr_geta (n := 25) 0 8 6 (dkX12_ends (i := 12) rfl) rfl lmO rfl gnX12 (Nat.le_of_ble_eq_true rfl) kfX12_30 rfl ?_
    refine qr_iload_n (n := 26) 1 (dkX12_ends (i := 13) rfl) rfl rfl ?_
    refine qr_lald (n := 27) 6 403 (dkX12_ends (i := 14) rfl) rfl lmA_6 ?_
    refine qr_last (n := 28) 8 18 (dkX12_ends (i := 15) rfl) rfl lmA_8 (fun S_2 => ?_)
    refine qr_aload_n (n := 29) 0 (dkX12_ends (i := 16) rfl) rfl rfl ?_
    refine qr_dup (n := 30) (dkX12_ends (i := 17) rfl) rfl rfl ?_
    refine qr_geti (n := 33) 0 20 (dkX12_ends (i := 18) rfl) rfl lmO rfl gnX12 (Nat.le_of_ble_eq_true rfl) kfX12_248 rfl ?_
    refine qr_iconst (n := 34) 1 (dkX12_ends (i := 19) rfl) rfl (by decide) ?_
    refine qr_iadd (n := 35) (dkX12_ends (i := 20) rfl) rfl ?_
    refine qr_puti (n := 38) 0 20 (dkX12_ends (i := 21) rfl) rfl lmO rfl gnX12 (Nat.le_of_ble_eq_true rfl) kfX12_248 rfl tyX12_ok nmX12 rfl rfl (fun S_3 => ?_)
    exact qr_vret (dkX12_ends (i := 22) rfl) rfl rfl
  · exact qr_vret (dkX12_ends (i := 6) rfl) rfl rfl
def tbX12_tellNoise : List (Nat × Instr × Nat) := [(0, .bipush 8, 2), (2, .aload_n 0, 1), (3, .getfield 245, 3), (6, .imul, 1), (7, .aload_n 0, 1), (8, .getfield 43, 3), (11, .aload_n 0, 1), (12, .getfield 245, 3), (15, .iaload, 1), (16, .iadd, 1), (17, .istore_n 2, 1), (18, .aload_n 0, 1), (19, .invokevirtual 274, 3), (22, .istore_n 3, 1), (23, .aload_n 0, 1), (24, .getfield 46, 3), (27, .iload_n 2, 1), (28, .iload_n 1, 1), (29, .bastore, 1), (30, .aload_n 0, 1), (31, .getfield 50, 3), (34, .iload_n 2, 1), (35, .iload_n 1, 1), (36, .ifCond .eq 14, 3), (39, .aload_n 0, 1), (40, .iconst 0, 1), (41, .sipush 999, 3), (44, .invokevirtual 278, 3), (47, .goto 4, 3), (50, .iconst 0, 1), (51, .iastore, 1), (52, .aload_n 0, 1), (53, .getfield 53, 3), (56, .iload_n 2, 1), (57, .iload_n 1, 1), (58, .ifCond .eq 14, 3), (61, .aload_n 0, 1), (62, .iconst 1, 1), (63, .sipush 999, 3), (66, .invokevirtual 278, 3), (69, .goto 10, 3), (72, .aload_n 0, 1), (73, .iconst 0, 1), (74, .bipush 100, 2), (76, .invokevirtual 278, 3), (79, .iastore, 1), (80, .aload_n 0, 1), (81, .getfield 56, 3), (84, .iload_n 2, 1), (85, .aload_n 0, 1), (86, .iconst 1, 1), (87, .iload_n 1, 1), (88, .ifCond .eq 8, 3), (91, .bipush 99, 2), (93, .goto 5, 3), (96, .bipush 20, 2), (98, .invokevirtual 278, 3), (101, .iastore, 1), (102, .aload_n 0, 1), (103, .getfield 59, 3), (106, .iload_n 2, 1), (107, .aload_n 0, 1), (108, .iconst 0, 1), (109, .bipush 99, 2), (111, .invokevirtual 278, 3), (114, .iastore, 1), (115, .aload_n 0, 1), (116, .getfield 62, 3), (119, .iload_n 2, 1), (120, .aload_n 0, 1), (121, .iconst 0, 1), (122, .bipush 99, 2), (124, .invokevirtual 278, 3), (127, .iastore, 1), (128, .aload_n 0, 1), (129, .iload_n 3, 1), (130, .invokevirtual 282, 3), (133, .aload_n 0, 1), (134, .getfield 212, 3), (137, .ifCond .ne 16, 3), (140, .aload_n 0, 1), (141, .getfield 43, 3), (144, .aload_n 0, 1), (145, .getfield 245, 3), (148, .dup2, 1), (149, .iaload, 1), (150, .iconst 1, 1), (151, .iadd, 1), (152, .iastore, 1), (153, .return_, 1)]
set_option maxRecDepth 20000 in
theorem daX12_tellNoise : ∀ x ∈ tbX12_tellNoise, decode cX12_tellNoise x.1 = .ok x.2 := by decide +kernel
theorem dkX12_tellNoise {i pc n : Nat} {ins : Instr} (h : tbX12_tellNoise[i]? = some (pc, ins, n)) : decode cX12_tellNoise pc = .ok (ins, n) := daX12_tellNoise (pc, ins, n) (List.mem_of_getElem? h)
def fX12_tellNoise (S0 : qv_St) (x1 : Int32) : Option qv_St :=
  qv_ck (S0.1 0 19) 2 <|
  qv_b (((8 * (S0.1 0 19)) + (S0.1 9 (Int32.toNatClampNeg (S0.1 0 19)))) : Int32) fun x2_1 =>
  qv_cm (fX12_named S0) fun S_1 r_1 =>
  qv_ck x2_1 16 <| qv_b (qv_si S_1 10 (Int32.toNatClampNeg x2_1) (vp_nar .boolean x1)) fun S_2 =>
  qv_j (fun (S_3 : qv_St) (t_1 : Int32) =>
    qv_ck x2_1 16 <| qv_b (qv_si S_3 11 (Int32.toNatClampNeg x2_1) t_1) fun S_4 =>
    qv_j (fun (S_5 : qv_St) (t_2 : Int32) =>
      qv_ck x2_1 16 <| qv_b (qv_si S_5 12 (Int32.toNatClampNeg x2_1) t_2) fun S_6 =>
      qv_j (fun (t_3 : Int32) =>
        qv_cm (fX12_bounded S_6 1 t_3) fun S_7 r_2 =>
        qv_ck x2_1 16 <| qv_b (qv_si S_7 13 (Int32.toNatClampNeg x2_1) r_2) fun S_8 =>
        qv_cm (fX12_bounded S_8 0 99) fun S_9 r_3 =>
        qv_ck x2_1 16 <| qv_b (qv_si S_9 14 (Int32.toNatClampNeg x2_1) r_3) fun S_10 =>
        qv_cm (fX12_bounded S_10 0 99) fun S_11 r_4 =>
        qv_ck x2_1 16 <| qv_b (qv_si S_11 15 (Int32.toNatClampNeg x2_1) r_4) fun S_12 =>
        (fX12_ends S_12 r_1).bind fun S_13 =>
        if (S_13.1 0 13) = 0 then
          qv_ck (S_13.1 0 19) 2 <|
          qv_ck (S_13.1 0 19) 2 <| qv_b (qv_si S_13 9 (Int32.toNatClampNeg (S_13.1 0 19)) ((S_13.1 9 (Int32.toNatClampNeg (S_13.1 0 19))) + 1)) fun S_14 =>
          some S_14
        else
          some S_13) fun K_3 =>
      if x1 = 0 then
        K_3 20
      else
        K_3 99) fun K_2 =>
    if x1 = 0 then
      qv_cm (fX12_bounded S_4 0 100) fun S_15 r_5 =>
      K_2 S_15 r_5
    else
      qv_cm (fX12_bounded S_4 1 999) fun S_16 r_6 =>
      K_2 S_16 r_6) fun K_1 =>
  if x1 = 0 then
    K_1 S_2 0
  else
    qv_cm (fX12_bounded S_2 0 999) fun S_17 r_7 =>
    K_1 S_17 r_7
set_option maxRecDepth 20000 in
set_option maxHeartbeats 4000000 in
theorem wX12_tellNoise (G : qv_GT) (S0 : qv_St) (x1 : Int32) : ∀ r, fX12_tellNoise S0 x1 = some r → Cn G Lm yX12_tellNoise cX12_tellNoise 4 none 5 [.ref (G.2.2.1 0), .int x1] S0 (qe_u r) := by
  refine cn_of (own := RX12) (emb := qe_u) (lv := [(0, .ref (G.2.2.1 0)), (1, .int x1)]) rfl rfl (Nat.le_of_ble_eq_true rfl) rfl (fun X => ?_)
  unfold fX12_tellNoise
  refine qr_bipush (n := 2) 8 (dkX12_tellNoise (i := 0) rfl) rfl (by decide) ?_
  refine qr_aload_n (n := 3) 0 (dkX12_tellNoise (i := 1) rfl) rfl rfl ?_
  refine qr_geti (n := 6) 0 19 (dkX12_tellNoise (i := 2) rfl) rfl lmO rfl gnX12 (Nat.le_of_ble_eq_true rfl) kfX12_245 rfl ?_
  refine qr_imul (n := 7) (dkX12_tellNoise (i := 3) rfl) rfl ?_
  refine qr_aload_n (n := 8) 0 (dkX12_tellNoise (i := 4) rfl) rfl rfl ?_
  refine qr_geta (n := 11) 0 22 9 (dkX12_tellNoise (i := 5) rfl) rfl lmO rfl gnX12 (Nat.le_of_ble_eq_true rfl) kfX12_43 rfl ?_
  refine qr_aload_n (n := 12) 0 (dkX12_tellNoise (i := 6) rfl) rfl rfl ?_
  refine qr_geti (n := 15) 0 19 (dkX12_tellNoise (i := 7) rfl) rfl lmO rfl gnX12 (Nat.le_of_ble_eq_true rfl) kfX12_245 rfl ?_
  refine qr_iald (n := 16) 9 2 (dkX12_tellNoise (i := 8) rfl) rfl lmA_9 ?_
  refine qr_iadd (n := 17) (dkX12_tellNoise (i := 9) rfl) rfl ?_
  refine qr_b (α := Int32) ((8 * (S0.1 0 19)) + (S0.1 9 (Int32.toNatClampNeg (S0.1 0 19)))) (lvf := fun _ => [(0, .ref (G.2.2.1 0)), (1, .int x1)]) (stf := fun z => .int z :: []) (Sf := fun _ => S0) (fun x2_1 => ?_)
  refine qr_istore_n (n := 18) (lv2 := [(0, .ref (G.2.2.1 0)), (1, .int x1), (2, .int x2_1)]) [1, 2, 0] (dkX12_tellNoise (i := 10) rfl) rfl rfl (by decide) rfl ?_
  refine qr_aload_n (n := 19) 0 (dkX12_tellNoise (i := 11) rfl) rfl rfl ?_
  refine qr_cvm (n := 22) 0 [] (dkX12_tellNoise (i := 12) rfl) rfl kvX12_274 rfl rfl (Nat.le_of_ble_eq_true rfl) rfl rfl lmO rfl (wX12_named G S0) (fun S_1 r_1 => ?_)
  refine qr_istore_n (n := 23) (lv2 := [(0, .ref (G.2.2.1 0)), (1, .int x1), (2, .int x2_1), (3, .int r_1)]) [1, 2, 3, 0] (dkX12_tellNoise (i := 13) rfl) rfl rfl (by decide) rfl ?_
  refine qr_aload_n (n := 24) 0 (dkX12_tellNoise (i := 14) rfl) rfl rfl ?_
  refine qr_geta (n := 27) 0 23 10 (dkX12_tellNoise (i := 15) rfl) rfl lmO rfl gnX12 (Nat.le_of_ble_eq_true rfl) kfX12_46 rfl ?_
  refine qr_iload_n (n := 28) 2 (dkX12_tellNoise (i := 16) rfl) rfl rfl ?_
  refine qr_iload_n (n := 29) 1 (dkX12_tellNoise (i := 17) rfl) rfl rfl ?_
  refine qr_zast (n := 30) 10 16 (dkX12_tellNoise (i := 18) rfl) rfl lmA_10 (fun S_2 => ?_)
  refine qr_aload_n (n := 31) 0 (dkX12_tellNoise (i := 19) rfl) rfl rfl ?_
  refine qr_geta (n := 34) 0 24 11 (dkX12_tellNoise (i := 20) rfl) rfl lmO rfl gnX12 (Nat.le_of_ble_eq_true rfl) kfX12_50 rfl ?_
  refine qr_iload_n (n := 35) 2 (dkX12_tellNoise (i := 21) rfl) rfl rfl ?_
  refine qr_iload_n (n := 36) 1 (dkX12_tellNoise (i := 22) rfl) rfl rfl ?_
  refine qr_j (fun K_1 : qv_St → Int32 → Option qv_St => ∀ (S_3 : qv_St) (t_1 : Int32), VV G Lm X RX12 cX12_tellNoise 4 none 5 qe_u 51 [(0, .ref (G.2.2.1 0)), (1, .int x1), (2, .int x2_1), (3, .int r_1)] [.int t_1, .int x2_1, .ref (G.2.2.1 11)] S_3 (K_1 S_3 t_1)) (fun S_3 t_1 => ?_) (fun K_1 hK_1 => ?_)
  · refine qr_iast (n := 52) 11 16 (dkX12_tellNoise (i := 30) rfl) rfl lmA_11 (fun S_4 => ?_)
    refine qr_aload_n (n := 53) 0 (dkX12_tellNoise (i := 31) rfl) rfl rfl ?_
    refine qr_geta (n := 56) 0 25 12 (dkX12_tellNoise (i := 32) rfl) rfl lmO rfl gnX12 (Nat.le_of_ble_eq_true rfl) kfX12_53 rfl ?_
    refine qr_iload_n (n := 57) 2 (dkX12_tellNoise (i := 33) rfl) rfl rfl ?_
    refine qr_iload_n (n := 58) 1 (dkX12_tellNoise (i := 34) rfl) rfl rfl ?_
    refine qr_j (fun K_2 : qv_St → Int32 → Option qv_St => ∀ (S_5 : qv_St) (t_2 : Int32), VV G Lm X RX12 cX12_tellNoise 4 none 5 qe_u 79 [(0, .ref (G.2.2.1 0)), (1, .int x1), (2, .int x2_1), (3, .int r_1)] [.int t_2, .int x2_1, .ref (G.2.2.1 12)] S_5 (K_2 S_5 t_2)) (fun S_5 t_2 => ?_) (fun K_2 hK_2 => ?_)
    · refine qr_iast (n := 80) 12 16 (dkX12_tellNoise (i := 45) rfl) rfl lmA_12 (fun S_6 => ?_)
      refine qr_aload_n (n := 81) 0 (dkX12_tellNoise (i := 46) rfl) rfl rfl ?_
      refine qr_geta (n := 84) 0 26 13 (dkX12_tellNoise (i := 47) rfl) rfl lmO rfl gnX12 (Nat.le_of_ble_eq_true rfl) kfX12_56 rfl ?_
      refine qr_iload_n (n := 85) 2 (dkX12_tellNoise (i := 48) rfl) rfl rfl ?_
      refine qr_aload_n (n := 86) 0 (dkX12_tellNoise (i := 49) rfl) rfl rfl ?_
      refine qr_iconst (n := 87) 1 (dkX12_tellNoise (i := 50) rfl) rfl (by decide) ?_
      refine qr_iload_n (n := 88) 1 (dkX12_tellNoise (i := 51) rfl) rfl rfl ?_
      refine qr_j (fun K_3 : Int32 → Option qv_St => ∀ (t_3 : Int32), VV G Lm X RX12 cX12_tellNoise 4 none 5 qe_u 98 [(0, .ref (G.2.2.1 0)), (2, .int x2_1), (3, .int r_1)] [.int t_3, .int 1, .ref (G.2.2.1 0), .int x2_1, .ref (G.2.2.1 13)] S_6 (K_3 t_3)) (fun t_3 => ?_) (fun K_3 hK_3 => ?_)
      · refine qr_cvm (n := 101) 0 [.int 1, .int t_3] (dkX12_tellNoise (i := 56) rfl) rfl kvX12_278 rfl rfl (Nat.le_of_ble_eq_true rfl) rfl rfl lmO rfl (wX12_bounded G S_6 1 t_3) (fun S_7 r_2 => ?_)
        refine qr_iast (n := 102) 13 16 (dkX12_tellNoise (i := 57) rfl) rfl lmA_13 (fun S_8 => ?_)
        refine qr_aload_n (n := 103) 0 (dkX12_tellNoise (i := 58) rfl) rfl rfl ?_
        refine qr_geta (n := 106) 0 27 14 (dkX12_tellNoise (i := 59) rfl) rfl lmO rfl gnX12 (Nat.le_of_ble_eq_true rfl) kfX12_59 rfl ?_
        refine qr_iload_n (n := 107) 1 (dkX12_tellNoise (i := 60) rfl) rfl rfl ?_
        refine qr_aload_n (n := 108) 0 (dkX12_tellNoise (i := 61) rfl) rfl rfl ?_
        refine qr_iconst (n := 109) 0 (dkX12_tellNoise (i := 62) rfl) rfl (by decide) ?_
        refine qr_bipush (n := 111) 99 (dkX12_tellNoise (i := 63) rfl) rfl (by decide) ?_
        refine qr_cvm (n := 114) 0 [.int 0, .int 99] (dkX12_tellNoise (i := 64) rfl) rfl kvX12_278 rfl rfl (Nat.le_of_ble_eq_true rfl) rfl rfl lmO rfl (wX12_bounded G S_8 0 99) (fun S_9 r_3 => ?_)
        refine qr_iast (n := 115) 14 16 (dkX12_tellNoise (i := 65) rfl) rfl lmA_14 (fun S_10 => ?_)
        refine qr_aload_n (n := 116) 0 (dkX12_tellNoise (i := 66) rfl) rfl rfl ?_
        refine qr_geta (n := 119) 0 28 15 (dkX12_tellNoise (i := 67) rfl) rfl lmO rfl gnX12 (Nat.le_of_ble_eq_true rfl) kfX12_62 rfl ?_
        refine qr_iload_n (n := 120) 1 (dkX12_tellNoise (i := 68) rfl) rfl rfl ?_
        refine qr_aload_n (n := 121) 0 (dkX12_tellNoise (i := 69) rfl) rfl rfl ?_
        refine qr_iconst (n := 122) 0 (dkX12_tellNoise (i := 70) rfl) rfl (by decide) ?_
        refine qr_bipush (n := 124) 99 (dkX12_tellNoise (i := 71) rfl) rfl (by decide) ?_
        refine qr_cvm (n := 127) 0 [.int 0, .int 99] (dkX12_tellNoise (i := 72) rfl) rfl kvX12_278 rfl rfl (Nat.le_of_ble_eq_true rfl) rfl rfl lmO rfl (wX12_bounded G S_10 0 99) (fun S_11 r_4 => ?_)
        refine qr_iast (n := 128) 15 16 (dkX12_tellNoise (i := 73) rfl) rfl lmA_15 (fun S_12 => ?_)
        refine qr_aload_n (n := 129) 0 (dkX12_tellNoise (i := 74) rfl) rfl rfl ?_
        refine qr_iload_n (n := 130) 2 (dkX12_tellNoise (i := 75) rfl) rfl rfl ?_
        refine qr_cvu (n := 133) 0 [.int r_1] (dkX12_tellNoise (i := 76) rfl) rfl kvX12_282 rfl rfl (Nat.le_of_ble_eq_true rfl) rfl rfl lmO rfl (wX12_ends G S_12 r_1) (fun S_13 => ?_)
        refine qr_aload_n (n := 134) 0 (dkX12_tellNoise (i := 77) rfl) rfl rfl ?_
        refine qr_geti (n := 137) 0 13 (dkX12_tellNoise (i := 78) rfl) rfl lmO rfl gnX12 (Nat.le_of_ble_eq_true rfl) kfX12_212 rfl ?_
        refine qr_if_ne (t := 153) (n := 140) (dkX12_tellNoise (i := 79) rfl) (by decide) rfl ?_ ?_
        · exact qr_vret (dkX12_tellNoise (i := 89) rfl) rfl rfl
        · refine qr_aload_n (n := 141) 0 (dkX12_tellNoise (i := 80) rfl) rfl rfl ?_
          refine qr_geta (n := 144) 0 22 9 (dkX12_tellNoise (i := 81) rfl) rfl lmO rfl gnX12 (Nat.le_of_ble_eq_true rfl) kfX12_43 rfl ?_
          refine qr_aload_n (n := 145) 0 (dkX12_tellNoise (i := 82) rfl) rfl rfl ?_
          refine qr_geti (n := 148) 0 19 (dkX12_tellNoise (i := 83) rfl) rfl lmO rfl gnX12 (Nat.le_of_ble_eq_true rfl) kfX12_245 rfl ?_
          refine qr_dup2 (n := 149) (dkX12_tellNoise (i := 84) rfl) rfl rfl rfl ?_
          refine qr_iald (n := 150) 9 2 (dkX12_tellNoise (i := 85) rfl) rfl lmA_9 ?_
          refine qr_iconst (n := 151) 1 (dkX12_tellNoise (i := 86) rfl) rfl (by decide) ?_
          refine qr_iadd (n := 152) (dkX12_tellNoise (i := 87) rfl) rfl ?_
          refine qr_iast (n := 153) 9 2 (dkX12_tellNoise (i := 88) rfl) rfl lmA_9 (fun S_14 => ?_)
          exact qr_vret (dkX12_tellNoise (i := 89) rfl) rfl rfl
      · refine qr_if_eq (t := 96) (n := 91) (dkX12_tellNoise (i := 52) rfl) (by decide) rfl ?_ ?_
        · refine qr_bipush (n := 98) 20 (dkX12_tellNoise (i := 55) rfl) rfl (by decide) ?_
          refine qr_sub [0, 2, 3] rfl ?_
          exact hK_3 20
        · refine qr_bipush (n := 93) 99 (dkX12_tellNoise (i := 53) rfl) rfl (by decide) ?_
          refine qr_goto (n := 98) (dkX12_tellNoise (i := 54) rfl) (by decide) ?_
          refine qr_sub [0, 2, 3] rfl ?_
          exact hK_3 99
    · refine qr_if_eq (t := 72) (n := 61) (dkX12_tellNoise (i := 35) rfl) (by decide) rfl ?_ ?_
      · refine qr_aload_n (n := 73) 0 (dkX12_tellNoise (i := 41) rfl) rfl rfl ?_
        refine qr_iconst (n := 74) 0 (dkX12_tellNoise (i := 42) rfl) rfl (by decide) ?_
        refine qr_bipush (n := 76) 100 (dkX12_tellNoise (i := 43) rfl) rfl (by decide) ?_
        refine qr_cvm (n := 79) 0 [.int 0, .int 100] (dkX12_tellNoise (i := 44) rfl) rfl kvX12_278 rfl rfl (Nat.le_of_ble_eq_true rfl) rfl rfl lmO rfl (wX12_bounded G S_4 0 100) (fun S_15 r_5 => ?_)
        exact hK_2 S_15 r_5
      · refine qr_aload_n (n := 62) 0 (dkX12_tellNoise (i := 36) rfl) rfl rfl ?_
        refine qr_iconst (n := 63) 1 (dkX12_tellNoise (i := 37) rfl) rfl (by decide) ?_
        refine qr_sipush (n := 66) 999 (dkX12_tellNoise (i := 38) rfl) rfl (by decide) ?_
        refine qr_cvm (n := 69) 0 [.int 1, .int 999] (dkX12_tellNoise (i := 39) rfl) rfl kvX12_278 rfl rfl (Nat.le_of_ble_eq_true rfl) rfl rfl lmO rfl (wX12_bounded G S_4 1 999) (fun S_16 r_6 => ?_)
        refine qr_goto (n := 79) (dkX12_tellNoise (i := 40) rfl) (by decide) ?_
        exact hK_2 S_16 r_6
  · refine qr_if_eq (t := 50) (n := 39) (dkX12_tellNoise (i := 23) rfl) (by decide) rfl ?_ ?_
    · refine qr_iconst (n := 51) 0 (dkX12_tellNoise (i := 29) rfl) rfl (by decide) ?_
      exact hK_1 S_2 0
    · refine qr_aload_n (n := 40) 0 (dkX12_tellNoise (i := 24) rfl) rfl rfl ?_
      refine qr_iconst (n := 41) 0 (dkX12_tellNoise (i := 25) rfl) rfl (by decide) ?_
      refine qr_sipush (n := 44) 999 (dkX12_tellNoise (i := 26) rfl) rfl (by decide) ?_
      refine qr_cvm (n := 47) 0 [.int 0, .int 999] (dkX12_tellNoise (i := 27) rfl) rfl kvX12_278 rfl rfl (Nat.le_of_ble_eq_true rfl) rfl rfl lmO rfl (wX12_bounded G S_2 0 999) (fun S_17 r_7 => ?_)
      refine qr_goto (n := 51) (dkX12_tellNoise (i := 28) rfl) (by decide) ?_
      exact hK_1 S_17 r_7
def tbX12_tellShot : List (Nat × Instr × Nat) := [(0, .bipush 6, 2), (2, .aload_n 0, 1), (3, .getfield 245, 3), (6, .imul, 1), (7, .aload_n 0, 1), (8, .getfield 71, 3), (11, .aload_n 0, 1), (12, .getfield 245, 3), (15, .iaload, 1), (16, .iadd, 1), (17, .istore_n 1, 1), (18, .aload_n 0, 1), (19, .invokevirtual 274, 3), (22, .istore_n 2, 1), (23, .aload_n 0, 1), (24, .getfield 74, 3), (27, .iload_n 1, 1), (28, .aload_n 0, 1), (29, .iconst 1, 1), (30, .bipush 9, 2), (32, .invokevirtual 278, 3), (35, .iastore, 1), (36, .aload_n 0, 1), (37, .getfield 77, 3), (40, .iload_n 1, 1), (41, .aload_n 0, 1), (42, .iconst 0, 1), (43, .bipush 99, 2), (45, .invokevirtual 278, 3), (48, .iastore, 1), (49, .aload_n 0, 1), (50, .iload_n 2, 1), (51, .invokevirtual 282, 3), (54, .aload_n 0, 1), (55, .getfield 212, 3), (58, .ifCond .ne 16, 3), (61, .aload_n 0, 1), (62, .getfield 71, 3), (65, .aload_n 0, 1), (66, .getfield 245, 3), (69, .dup2, 1), (70, .iaload, 1), (71, .iconst 1, 1), (72, .iadd, 1), (73, .iastore, 1), (74, .return_, 1)]
set_option maxRecDepth 20000 in
theorem daX12_tellShot : ∀ x ∈ tbX12_tellShot, decode cX12_tellShot x.1 = .ok x.2 := by decide +kernel
theorem dkX12_tellShot {i pc n : Nat} {ins : Instr} (h : tbX12_tellShot[i]? = some (pc, ins, n)) : decode cX12_tellShot pc = .ok (ins, n) := daX12_tellShot (pc, ins, n) (List.mem_of_getElem? h)
def fX12_tellShot (S0 : qv_St) : Option qv_St :=
  qv_ck (S0.1 0 19) 2 <|
  qv_b (((6 * (S0.1 0 19)) + (S0.1 18 (Int32.toNatClampNeg (S0.1 0 19)))) : Int32) fun x1_1 =>
  qv_cm (fX12_named S0) fun S_1 r_1 =>
  qv_cm (fX12_bounded S_1 1 9) fun S_2 r_2 =>
  qv_ck x1_1 12 <| qv_b (qv_si S_2 19 (Int32.toNatClampNeg x1_1) r_2) fun S_3 =>
  qv_cm (fX12_bounded S_3 0 99) fun S_4 r_3 =>
  qv_ck x1_1 12 <| qv_b (qv_si S_4 20 (Int32.toNatClampNeg x1_1) r_3) fun S_5 =>
  (fX12_ends S_5 r_1).bind fun S_6 =>
  if (S_6.1 0 13) = 0 then
    qv_ck (S_6.1 0 19) 2 <|
    qv_ck (S_6.1 0 19) 2 <| qv_b (qv_si S_6 18 (Int32.toNatClampNeg (S_6.1 0 19)) ((S_6.1 18 (Int32.toNatClampNeg (S_6.1 0 19))) + 1)) fun S_7 =>
    some S_7
  else
    some S_6
set_option maxRecDepth 20000 in
set_option maxHeartbeats 4000000 in
theorem wX12_tellShot (G : qv_GT) (S0 : qv_St) : ∀ r, fX12_tellShot S0 = some r → Cn G Lm yX12_tellShot cX12_tellShot 3 none 5 [.ref (G.2.2.1 0)] S0 (qe_u r) := by
  refine cn_of (own := RX12) (emb := qe_u) (lv := [(0, .ref (G.2.2.1 0))]) rfl rfl (Nat.le_of_ble_eq_true rfl) rfl (fun X => ?_)
  unfold fX12_tellShot
  refine qr_bipush (n := 2) 6 (dkX12_tellShot (i := 0) rfl) rfl (by decide) ?_
  refine qr_aload_n (n := 3) 0 (dkX12_tellShot (i := 1) rfl) rfl rfl ?_
  refine qr_geti (n := 6) 0 19 (dkX12_tellShot (i := 2) rfl) rfl lmO rfl gnX12 (Nat.le_of_ble_eq_true rfl) kfX12_245 rfl ?_
  refine qr_imul (n := 7) (dkX12_tellShot (i := 3) rfl) rfl ?_
  refine qr_aload_n (n := 8) 0 (dkX12_tellShot (i := 4) rfl) rfl rfl ?_
  refine qr_geta (n := 11) 0 31 18 (dkX12_tellShot (i := 5) rfl) rfl lmO rfl gnX12 (Nat.le_of_ble_eq_true rfl) kfX12_71 rfl ?_
  refine qr_aload_n (n := 12) 0 (dkX12_tellShot (i := 6) rfl) rfl rfl ?_
  refine qr_geti (n := 15) 0 19 (dkX12_tellShot (i := 7) rfl) rfl lmO rfl gnX12 (Nat.le_of_ble_eq_true rfl) kfX12_245 rfl ?_
  refine qr_iald (n := 16) 18 2 (dkX12_tellShot (i := 8) rfl) rfl lmA_18 ?_
  refine qr_iadd (n := 17) (dkX12_tellShot (i := 9) rfl) rfl ?_
  refine qr_b (α := Int32) ((6 * (S0.1 0 19)) + (S0.1 18 (Int32.toNatClampNeg (S0.1 0 19)))) (lvf := fun _ => [(0, .ref (G.2.2.1 0))]) (stf := fun z => .int z :: []) (Sf := fun _ => S0) (fun x1_1 => ?_)
  refine qr_istore_n (n := 18) (lv2 := [(0, .ref (G.2.2.1 0)), (1, .int x1_1)]) [1, 0] (dkX12_tellShot (i := 10) rfl) rfl rfl (by decide) rfl ?_
  refine qr_aload_n (n := 19) 0 (dkX12_tellShot (i := 11) rfl) rfl rfl ?_
  refine qr_cvm (n := 22) 0 [] (dkX12_tellShot (i := 12) rfl) rfl kvX12_274 rfl rfl (Nat.le_of_ble_eq_true rfl) rfl rfl lmO rfl (wX12_named G S0) (fun S_1 r_1 => ?_)
  refine qr_istore_n (n := 23) (lv2 := [(0, .ref (G.2.2.1 0)), (1, .int x1_1), (2, .int r_1)]) [1, 2, 0] (dkX12_tellShot (i := 13) rfl) rfl rfl (by decide) rfl ?_
  refine qr_aload_n (n := 24) 0 (dkX12_tellShot (i := 14) rfl) rfl rfl ?_
  refine qr_geta (n := 27) 0 32 19 (dkX12_tellShot (i := 15) rfl) rfl lmO rfl gnX12 (Nat.le_of_ble_eq_true rfl) kfX12_74 rfl ?_
  refine qr_iload_n (n := 28) 1 (dkX12_tellShot (i := 16) rfl) rfl rfl ?_
  refine qr_aload_n (n := 29) 0 (dkX12_tellShot (i := 17) rfl) rfl rfl ?_
  refine qr_iconst (n := 30) 1 (dkX12_tellShot (i := 18) rfl) rfl (by decide) ?_
  refine qr_bipush (n := 32) 9 (dkX12_tellShot (i := 19) rfl) rfl (by decide) ?_
  refine qr_cvm (n := 35) 0 [.int 1, .int 9] (dkX12_tellShot (i := 20) rfl) rfl kvX12_278 rfl rfl (Nat.le_of_ble_eq_true rfl) rfl rfl lmO rfl (wX12_bounded G S_1 1 9) (fun S_2 r_2 => ?_)
  refine qr_iast (n := 36) 19 12 (dkX12_tellShot (i := 21) rfl) rfl lmA_19 (fun S_3 => ?_)
  refine qr_aload_n (n := 37) 0 (dkX12_tellShot (i := 22) rfl) rfl rfl ?_
  refine qr_geta (n := 40) 0 33 20 (dkX12_tellShot (i := 23) rfl) rfl lmO rfl gnX12 (Nat.le_of_ble_eq_true rfl) kfX12_77 rfl ?_
  refine qr_iload_n (n := 41) 1 (dkX12_tellShot (i := 24) rfl) rfl rfl ?_
  refine qr_aload_n (n := 42) 0 (dkX12_tellShot (i := 25) rfl) rfl rfl ?_
  refine qr_iconst (n := 43) 0 (dkX12_tellShot (i := 26) rfl) rfl (by decide) ?_
  refine qr_bipush (n := 45) 99 (dkX12_tellShot (i := 27) rfl) rfl (by decide) ?_
  refine qr_cvm (n := 48) 0 [.int 0, .int 99] (dkX12_tellShot (i := 28) rfl) rfl kvX12_278 rfl rfl (Nat.le_of_ble_eq_true rfl) rfl rfl lmO rfl (wX12_bounded G S_3 0 99) (fun S_4 r_3 => ?_)
  refine qr_iast (n := 49) 20 12 (dkX12_tellShot (i := 29) rfl) rfl lmA_20 (fun S_5 => ?_)
  refine qr_aload_n (n := 50) 0 (dkX12_tellShot (i := 30) rfl) rfl rfl ?_
  refine qr_iload_n (n := 51) 2 (dkX12_tellShot (i := 31) rfl) rfl rfl ?_
  refine qr_cvu (n := 54) 0 [.int r_1] (dkX12_tellShot (i := 32) rfl) rfl kvX12_282 rfl rfl (Nat.le_of_ble_eq_true rfl) rfl rfl lmO rfl (wX12_ends G S_5 r_1) (fun S_6 => ?_)
  refine qr_aload_n (n := 55) 0 (dkX12_tellShot (i := 33) rfl) rfl rfl ?_
  refine qr_geti (n := 58) 0 13 (dkX12_tellShot (i := 34) rfl) rfl lmO rfl gnX12 (Nat.le_of_ble_eq_true rfl) kfX12_212 rfl ?_
  refine qr_if_ne (t := 74) (n := 61) (dkX12_tellShot (i := 35) rfl) (by decide) rfl ?_ ?_
  · exact qr_vret (dkX12_tellShot (i := 45) rfl) rfl rfl
  · refine qr_aload_n (n := 62) 0 (dkX12_tellShot (i := 36) rfl) rfl rfl ?_
    refine qr_geta (n := 65) 0 31 18 (dkX12_tellShot (i := 37) rfl) rfl lmO rfl gnX12 (Nat.le_of_ble_eq_true rfl) kfX12_71 rfl ?_
    refine qr_aload_n (n := 66) 0 (dkX12_tellShot (i := 38) rfl) rfl rfl ?_
    refine qr_geti (n := 69) 0 19 (dkX12_tellShot (i := 39) rfl) rfl lmO rfl gnX12 (Nat.le_of_ble_eq_true rfl) kfX12_245 rfl ?_
    refine qr_dup2 (n := 70) (dkX12_tellShot (i := 40) rfl) rfl rfl rfl ?_
    refine qr_iald (n := 71) 18 2 (dkX12_tellShot (i := 41) rfl) rfl lmA_18 ?_
    refine qr_iconst (n := 72) 1 (dkX12_tellShot (i := 42) rfl) rfl (by decide) ?_
    refine qr_iadd (n := 73) (dkX12_tellShot (i := 43) rfl) rfl ?_
    refine qr_iast (n := 74) 18 2 (dkX12_tellShot (i := 44) rfl) rfl lmA_18 (fun S_7 => ?_)
    exact qr_vret (dkX12_tellShot (i := 45) rfl) rfl rfl
def tbX12_emit : List (Nat × Instr × Nat) := [(0, .aload_n 0, 1), (1, .getfield 110, 3), (4, .aload_n 0, 1), (5, .getfield 254, 3), (8, .iload_n 1, 1), (9, .iastore, 1), (10, .aload_n 0, 1), (11, .getfield 113, 3), (14, .aload_n 0, 1), (15, .getfield 254, 3), (18, .iload_n 2, 1), (19, .iastore, 1), (20, .aload_n 0, 1), (21, .dup, 1), (22, .getfield 254, 3), (25, .iconst 1, 1), (26, .iadd, 1), (27, .putfield 254, 3), (30, .return_, 1)]
set_option maxRecDepth 20000 in
theorem daX12_emit : ∀ x ∈ tbX12_emit, decode cX12_emit x.1 = .ok x.2 := by decide +kernel
theorem dkX12_emit {i pc n : Nat} {ins : Instr} (h : tbX12_emit[i]? = some (pc, ins, n)) : decode cX12_emit pc = .ok (ins, n) := daX12_emit (pc, ins, n) (List.mem_of_getElem? h)
def fX12_emit (S0 : qv_St) (x1 : Int32) (x2 : Int32) : Option qv_St :=
  qv_ck (S0.1 0 45) 840 <| qv_b (qv_si S0 31 (Int32.toNatClampNeg (S0.1 0 45)) x1) fun S_1 =>
  qv_ck (S_1.1 0 45) 840 <| qv_b (qv_si S_1 32 (Int32.toNatClampNeg (S_1.1 0 45)) x2) fun S_2 =>
  qv_b (qv_si S_2 0 45 ((S_2.1 0 45) + 1)) fun S_3 =>
  some S_3
set_option maxRecDepth 20000 in
set_option maxHeartbeats 4000000 in
theorem wX12_emit (G : qv_GT) (S0 : qv_St) (x1 : Int32) (x2 : Int32) : ∀ r, fX12_emit S0 x1 x2 = some r → Cn G Lm yX12_emit cX12_emit 3 none 1 [.ref (G.2.2.1 0), .int x1, .int x2] S0 (qe_u r) := by
  refine cn_of (own := RX12) (emb := qe_u) (lv := [(0, .ref (G.2.2.1 0)), (1, .int x1), (2, .int x2)]) rfl rfl (Nat.le_of_ble_eq_true rfl) rfl (fun X => ?_)
  unfold fX12_emit
  refine qr_aload_n (n := 1) 0 (dkX12_emit (i := 0) rfl) rfl rfl ?_
  refine qr_geta (n := 4) 0 46 31 (dkX12_emit (i := 1) rfl) rfl lmO rfl gnX12 (Nat.le_of_ble_eq_true rfl) kfX12_110 rfl ?_
  refine qr_aload_n (n := 5) 0 (dkX12_emit (i := 2) rfl) rfl rfl ?_
  refine qr_geti (n := 8) 0 45 (dkX12_emit (i := 3) rfl) rfl lmO rfl gnX12 (Nat.le_of_ble_eq_true rfl) kfX12_254 rfl ?_
  refine qr_iload_n (n := 9) 1 (dkX12_emit (i := 4) rfl) rfl rfl ?_
  refine qr_iast (n := 10) 31 840 (dkX12_emit (i := 5) rfl) rfl lmA_31 (fun S_1 => ?_)
  refine qr_aload_n (n := 11) 0 (dkX12_emit (i := 6) rfl) rfl rfl ?_
  refine qr_geta (n := 14) 0 47 32 (dkX12_emit (i := 7) rfl) rfl lmO rfl gnX12 (Nat.le_of_ble_eq_true rfl) kfX12_113 rfl ?_
  refine qr_aload_n (n := 15) 0 (dkX12_emit (i := 8) rfl) rfl rfl ?_
  refine qr_geti (n := 18) 0 45 (dkX12_emit (i := 9) rfl) rfl lmO rfl gnX12 (Nat.le_of_ble_eq_true rfl) kfX12_254 rfl ?_
  refine qr_iload_n (n := 19) 2 (dkX12_emit (i := 10) rfl) rfl rfl ?_
  refine qr_iast (n := 20) 32 840 (dkX12_emit (i := 11) rfl) rfl lmA_32 (fun S_2 => ?_)
  refine qr_aload_n (n := 21) 0 (dkX12_emit (i := 12) rfl) rfl rfl ?_
  refine qr_dup (n := 22) (dkX12_emit (i := 13) rfl) rfl rfl ?_
  refine qr_geti (n := 25) 0 45 (dkX12_emit (i := 14) rfl) rfl lmO rfl gnX12 (Nat.le_of_ble_eq_true rfl) kfX12_254 rfl ?_
  refine qr_iconst (n := 26) 1 (dkX12_emit (i := 15) rfl) rfl (by decide) ?_
  refine qr_iadd (n := 27) (dkX12_emit (i := 16) rfl) rfl ?_
  refine qr_puti (n := 30) 0 45 (dkX12_emit (i := 17) rfl) rfl lmO rfl gnX12 (Nat.le_of_ble_eq_true rfl) kfX12_254 rfl tyX12_ok nmX12 rfl rfl (fun S_3 => ?_)
  exact qr_vret (dkX12_emit (i := 18) rfl) rfl rfl
def tbX12_unit : List (Nat × Instr × Nat) := [(0, .aload_n 0, 1), (1, .iconst 2, 1), (2, .invokevirtual 230, 3), (5, .ifCond .eq 24, 3), (8, .aload_n 0, 1), (9, .iconst 0, 1), (10, .aload_n 0, 1), (11, .getfield 27, 3), (14, .aload_n 0, 1), (15, .getfield 215, 3), (18, .iaload, 1), (19, .invokevirtual 306, 3), (22, .aload_n 0, 1), (23, .invokevirtual 233, 3), (26, .goto 67, 3), (29, .aload_n 0, 1), (30, .getfield 212, 3), (33, .ifCond .ne 55, 3), (36, .aload_n 0, 1), (37, .getfield 20, 3), (40, .aload_n 0, 1), (41, .getfield 215, 3), (44, .iaload, 1), (45, .bipush 33, 2), (47, .if_icmp .lt 41, 3), (50, .aload_n 0, 1), (51, .getfield 20, 3), (54, .aload_n 0, 1), (55, .getfield 215, 3), (58, .iaload, 1), (59, .bipush 41, 2), (61, .if_icmp .gt 27, 3), (64, .aload_n 0, 1), (65, .iconst 1, 1), (66, .aload_n 0, 1), (67, .getfield 20, 3), (70, .aload_n 0, 1), (71, .getfield 215, 3), (74, .iaload, 1), (75, .bipush 33, 2), (77, .isub, 1), (78, .invokevirtual 306, 3), (81, .aload_n 0, 1), (82, .invokevirtual 233, 3), (85, .goto 8, 3), (88, .aload_n 0, 1), (89, .iconst 1, 1), (90, .invokevirtual 227, 3), (93, .return_, 1)]
set_option maxRecDepth 20000 in
theorem daX12_unit : ∀ x ∈ tbX12_unit, decode cX12_unit x.1 = .ok x.2 := by decide +kernel
theorem dkX12_unit {i pc n : Nat} {ins : Instr} (h : tbX12_unit[i]? = some (pc, ins, n)) : decode cX12_unit pc = .ok (ins, n) := daX12_unit (pc, ins, n) (List.mem_of_getElem? h)
def fX12_unit (S0 : qv_St) : Option qv_St :=
  (fX12_is S0 2).bind fun r_1 =>
  if r_1 = 0 then
    qv_j (
      (fX12_fail S0 1).bind fun S_1 =>
      some S_1) fun K_1 =>
    if (S0.1 0 13) = 0 then
      qv_ck (S0.1 0 11) 403 <|
      if (S0.1 3 (Int32.toNatClampNeg (S0.1 0 11))) < 33 then
        K_1
      else
        qv_ck (S0.1 0 11) 403 <|
        if 41 < (S0.1 3 (Int32.toNatClampNeg (S0.1 0 11))) then
          K_1
        else
          qv_ck (S0.1 0 11) 403 <|
          (fX12_emit S0 1 ((S0.1 3 (Int32.toNatClampNeg (S0.1 0 11))) - 33)).bind fun S_2 =>
          (fX12_goesOn S_2).bind fun S_3 =>
          some S_3
    else
      K_1
  else
    qv_ck (S0.1 0 11) 403 <|
    (fX12_emit S0 0 (S0.1 5 (Int32.toNatClampNeg (S0.1 0 11)))).bind fun S_4 =>
    (fX12_goesOn S_4).bind fun S_5 =>
    some S_5
set_option maxRecDepth 20000 in
set_option maxHeartbeats 4000000 in
theorem wX12_unit (G : qv_GT) (S0 : qv_St) : ∀ r, fX12_unit S0 = some r → Cn G Lm yX12_unit cX12_unit 1 none 3 [.ref (G.2.2.1 0)] S0 (qe_u r) := by
  refine cn_of (own := RX12) (emb := qe_u) (lv := [(0, .ref (G.2.2.1 0))]) rfl rfl (Nat.le_of_ble_eq_true rfl) rfl (fun X => ?_)
  unfold fX12_unit
  refine qr_aload_n (n := 1) 0 (dkX12_unit (i := 0) rfl) rfl rfl ?_
  refine qr_iconst (n := 2) 2 (dkX12_unit (i := 1) rfl) rfl (by decide) ?_
  refine qr_cvi (n := 5) 0 [.int 2] (dkX12_unit (i := 2) rfl) rfl kvX12_230 rfl rfl (Nat.le_of_ble_eq_true rfl) rfl rfl lmO rfl (wX12_is G S0 2) (fun r_1 => ?_)
  refine qr_if_eq (t := 29) (n := 8) (dkX12_unit (i := 3) rfl) (by decide) rfl ?_ ?_
  · refine qr_aload_n (n := 30) 0 (dkX12_unit (i := 15) rfl) rfl rfl ?_
    refine qr_geti (n := 33) 0 13 (dkX12_unit (i := 16) rfl) rfl lmO rfl gnX12 (Nat.le_of_ble_eq_true rfl) kfX12_212 rfl ?_
    refine qr_j (fun K_1 : Option qv_St => VV G Lm X RX12 cX12_unit 1 none 3 qe_u 88 [(0, .ref (G.2.2.1 0))] [] S0 (K_1)) (?_) (fun K_1 hK_1 => ?_)
    · refine qr_aload_n (n := 89) 0 (dkX12_unit (i := 45) rfl) rfl rfl ?_
      refine qr_iconst (n := 90) 1 (dkX12_unit (i := 46) rfl) rfl (by decide) ?_
      refine qr_cvu (n := 93) 0 [.int 1] (dkX12_unit (i := 47) rfl) rfl kvX12_227 rfl rfl (Nat.le_of_ble_eq_true rfl) rfl rfl lmO rfl (wX12_fail G S0 1) (fun S_1 => ?_)
      exact qr_vret (dkX12_unit (i := 48) rfl) rfl rfl
    · refine qr_if_ne (t := 88) (n := 36) (dkX12_unit (i := 17) rfl) (by decide) rfl ?_ ?_
      · exact hK_1
      · refine qr_aload_n (n := 37) 0 (dkX12_unit (i := 18) rfl) rfl rfl ?_
        refine qr_geta (n := 40) 0 5 3 (dkX12_unit (i := 19) rfl) rfl lmO rfl gnX12 (Nat.le_of_ble_eq_true rfl) kfX12_20 rfl ?_
        refine qr_aload_n (n := 41) 0 (dkX12_unit (i := 20) rfl) rfl rfl ?_
        refine qr_geti (n := 44) 0 11 (dkX12_unit (i := 21) rfl) rfl lmO rfl gnX12 (Nat.le_of_ble_eq_true rfl) kfX12_215 rfl ?_
        refine qr_iald (n := 45) 3 403 (dkX12_unit (i := 22) rfl) rfl lmA_3 ?_
        refine qr_bipush (n := 47) 33 (dkX12_unit (i := 23) rfl) rfl (by decide) ?_
        refine qr_icmp_lt (t := 88) (n := 50) (dkX12_unit (i := 24) rfl) (by decide) rfl ?_ ?_
        · exact hK_1
        · refine qr_aload_n (n := 51) 0 (dkX12_unit (i := 25) rfl) rfl rfl ?_
          refine qr_geta (n := 54) 0 5 3 (dkX12_unit (i := 26) rfl) rfl lmO rfl gnX12 (Nat.le_of_ble_eq_true rfl) kfX12_20 rfl ?_
          refine qr_aload_n (n := 55) 0 (dkX12_unit (i := 27) rfl) rfl rfl ?_
          refine qr_geti (n := 58) 0 11 (dkX12_unit (i := 28) rfl) rfl lmO rfl gnX12 (Nat.le_of_ble_eq_true rfl) kfX12_215 rfl ?_
          refine qr_iald (n := 59) 3 403 (dkX12_unit (i := 29) rfl) rfl lmA_3 ?_
          refine qr_bipush (n := 61) 41 (dkX12_unit (i := 30) rfl) rfl (by decide) ?_
          refine qr_icmp_gt (t := 88) (n := 64) (dkX12_unit (i := 31) rfl) (by decide) rfl ?_ ?_
          · exact hK_1
          · refine qr_aload_n (n := 65) 0 (dkX12_unit (i := 32) rfl) rfl rfl ?_
            refine qr_iconst (n := 66) 1 (dkX12_unit (i := 33) rfl) rfl (by decide) ?_
            refine qr_aload_n (n := 67) 0 (dkX12_unit (i := 34) rfl) rfl rfl ?_
            refine qr_geta (n := 70) 0 5 3 (dkX12_unit (i := 35) rfl) rfl lmO rfl gnX12 (Nat.le_of_ble_eq_true rfl) kfX12_20 rfl ?_
            refine qr_aload_n (n := 71) 0 (dkX12_unit (i := 36) rfl) rfl rfl ?_
            refine qr_geti (n := 74) 0 11 (dkX12_unit (i := 37) rfl) rfl lmO rfl gnX12 (Nat.le_of_ble_eq_true rfl) kfX12_215 rfl ?_
            refine qr_iald (n := 75) 3 403 (dkX12_unit (i := 38) rfl) rfl lmA_3 ?_
            refine qr_bipush (n := 77) 33 (dkX12_unit (i := 39) rfl) rfl (by decide) ?_
            refine qr_isub (n := 78) (dkX12_unit (i := 40) rfl) rfl ?_
            refine qr_cvu (n := 81) 0 [.int 1, .int ((S0.1 3 (Int32.toNatClampNeg (S0.1 0 11))) - 33)] (dkX12_unit (i := 41) rfl) rfl kvX12_306 rfl rfl (Nat.le_of_ble_eq_true rfl) rfl rfl lmO rfl (wX12_emit G S0 1 ((S0.1 3 (Int32.toNatClampNeg (S0.1 0 11))) - 33)) (fun S_2 => ?_)
            refine qr_aload_n (n := 82) 0 (dkX12_unit (i := 42) rfl) rfl rfl ?_
            refine qr_cvu (n := 85) 0 [] (dkX12_unit (i := 43) rfl) rfl kvX12_233 rfl rfl (Nat.le_of_ble_eq_true rfl) rfl rfl lmO rfl (wX12_goesOn G S_2) (fun S_3 => ?_)
            refine qr_goto (n := 93) (dkX12_unit (i := 44) rfl) (by decide) ?_
            exact qr_vret (dkX12_unit (i := 48) rfl) rfl rfl
  · refine qr_aload_n (n := 9) 0 (dkX12_unit (i := 4) rfl) rfl rfl ?_
    refine qr_iconst (n := 10) 0 (dkX12_unit (i := 5) rfl) rfl (by decide) ?_
    refine qr_aload_n (n := 11) 0 (dkX12_unit (i := 6) rfl) rfl rfl ?_
    refine qr_geta (n := 14) 0 7 5 (dkX12_unit (i := 7) rfl) rfl lmO rfl gnX12 (Nat.le_of_ble_eq_true rfl) kfX12_27 rfl ?_
    refine qr_aload_n (n := 15) 0 (dkX12_unit (i := 8) rfl) rfl rfl ?_
    refine qr_geti (n := 18) 0 11 (dkX12_unit (i := 9) rfl) rfl lmO rfl gnX12 (Nat.le_of_ble_eq_true rfl) kfX12_215 rfl ?_
    refine qr_iald (n := 19) 5 403 (dkX12_unit (i := 10) rfl) rfl lmA_5 ?_
    refine qr_cvu (n := 22) 0 [.int 0, .int (S0.1 5 (Int32.toNatClampNeg (S0.1 0 11)))] (dkX12_unit (i := 11) rfl) rfl kvX12_306 rfl rfl (Nat.le_of_ble_eq_true rfl) rfl rfl lmO rfl (wX12_emit G S0 0 (S0.1 5 (Int32.toNatClampNeg (S0.1 0 11)))) (fun S_4 => ?_)
    refine qr_aload_n (n := 23) 0 (dkX12_unit (i := 12) rfl) rfl rfl ?_
    refine qr_cvu (n := 26) 0 [] (dkX12_unit (i := 13) rfl) rfl kvX12_233 rfl rfl (Nat.le_of_ble_eq_true rfl) rfl rfl lmO rfl (wX12_goesOn G S_4) (fun S_5 => ?_)
    refine qr_goto (n := 93) (dkX12_unit (i := 14) rfl) (by decide) ?_
    exact qr_vret (dkX12_unit (i := 48) rfl) rfl rfl
def tbX12_comesOut : List (Nat × Instr × Nat) := [(0, .aload_n 0, 1), (1, .getfield 303, 3), (4, .ifCond .le 87, 3), (7, .aload_n 0, 1), (8, .getfield 116, 3), (11, .aload_n 0, 1), (12, .getfield 303, 3), (15, .iconst 1, 1), (16, .isub, 1), (17, .iaload, 1), (18, .istore_n 2, 1), (19, .iload_n 2, 1), (20, .bipush 6, 2), (22, .if_icmp .eq 19, 3), (25, .iload_n 1, 1), (26, .ifCond .eq 16, 3), (29, .iload_n 2, 1), (30, .bipush 8, 2), (32, .if_icmp .eq 9, 3), (35, .iload_n 2, 1), (36, .bipush 9, 2), (38, .if_icmp .ne 4, 3), (41, .return_, 1), (42, .aload_n 0, 1), (43, .dup, 1), (44, .getfield 303, 3), (47, .iconst 1, 1), (48, .isub, 1), (49, .putfield 303, 3), (52, .aload_n 0, 1), (53, .iload_n 2, 1), (54, .bipush 8, 2), (56, .if_icmp .ne 7, 3), (59, .iconst 2, 1), (60, .goto 24, 3), (63, .iload_n 2, 1), (64, .bipush 9, 2), (66, .if_icmp .ne 7, 3), (69, .iconst 3, 1), (70, .goto 14, 3), (73, .iload_n 2, 1), (74, .bipush 10, 2), (76, .if_icmp .ne 7, 3), (79, .iconst 4, 1), (80, .goto 4, 3), (83, .iconst 5, 1), (84, .iconst 0, 1), (85, .invokevirtual 306, 3), (88, .goto (-88), 3), (91, .return_, 1)]
set_option maxRecDepth 20000 in
theorem daX12_comesOut : ∀ x ∈ tbX12_comesOut, decode cX12_comesOut x.1 = .ok x.2 := by decide +kernel
theorem dkX12_comesOut {i pc n : Nat} {ins : Instr} (h : tbX12_comesOut[i]? = some (pc, ins, n)) : decode cX12_comesOut pc = .ok (ins, n) := daX12_comesOut (pc, ins, n) (List.mem_of_getElem? h)
def fX12_comesOut (S0 : qv_St) (x1 : Int32) : Option qv_St :=
  qv_lp1 qv_N (fun self_1 (S_1 : qv_St) =>
    if (S_1.1 0 49) ≤ 0 then
      some S_1
    else
      qv_ck ((S_1.1 0 49) - 1) 64 <|
      qv_b ((S_1.1 33 (Int32.toNatClampNeg ((S_1.1 0 49) - 1))) : Int32) fun x2_1 =>
      if x2_1 = 6 then
        some S_1
      else
        qv_j (
          qv_b (qv_si S_1 0 49 ((S_1.1 0 49) - 1)) fun S_2 =>
          qv_j (fun (t_1 : Int32) =>
            (fX12_emit S_2 t_1 0).bind fun S_3 =>
            self_1 S_3) fun K_2 =>
          if x2_1 = 8 then
            K_2 2
          else
            if x2_1 = 9 then
              K_2 3
            else
              if x2_1 = 10 then
                K_2 4
              else
                K_2 5) fun K_1 =>
        if x1 = 0 then
          K_1
        else
          if x2_1 = 8 then
            some S_1
          else
            if x2_1 = 9 then
              some S_1
            else
              K_1) S0
set_option maxRecDepth 20000 in
set_option maxHeartbeats 4000000 in
theorem wX12_comesOut (G : qv_GT) (S0 : qv_St) (x1 : Int32) : ∀ r, fX12_comesOut S0 x1 = some r → Cn G Lm yX12_comesOut cX12_comesOut 3 none 2 [.ref (G.2.2.1 0), .int x1] S0 (qe_u r) := by
  refine cn_of (own := RX12) (emb := qe_u) (lv := [(0, .ref (G.2.2.1 0)), (1, .int x1)]) rfl rfl (Nat.le_of_ble_eq_true rfl) rfl (fun X => ?_)
  unfold fX12_comesOut
  refine qr_lp1 (fun (S_1 : qv_St) => [(0, .ref (G.2.2.1 0)), (1, .int x1)]) (fun (S_1 : qv_St) => S_1) (fun self_1 hself_1 S_1 => ?_) qv_N S0
  refine qr_aload_n (n := 1) 0 (dkX12_comesOut (i := 0) rfl) rfl rfl ?_
  refine qr_geti (n := 4) 0 49 (dkX12_comesOut (i := 1) rfl) rfl lmO rfl gnX12 (Nat.le_of_ble_eq_true rfl) kfX12_303 rfl ?_
  refine qr_if_le (t := 91) (n := 7) (dkX12_comesOut (i := 2) rfl) (by decide) rfl ?_ ?_
  · exact qr_vret (dkX12_comesOut (i := 49) rfl) rfl rfl
  · refine qr_aload_n (n := 8) 0 (dkX12_comesOut (i := 3) rfl) rfl rfl ?_
    refine qr_geta (n := 11) 0 48 33 (dkX12_comesOut (i := 4) rfl) rfl lmO rfl gnX12 (Nat.le_of_ble_eq_true rfl) kfX12_116 rfl ?_
    refine qr_aload_n (n := 12) 0 (dkX12_comesOut (i := 5) rfl) rfl rfl ?_
    refine qr_geti (n := 15) 0 49 (dkX12_comesOut (i := 6) rfl) rfl lmO rfl gnX12 (Nat.le_of_ble_eq_true rfl) kfX12_303 rfl ?_
    refine qr_iconst (n := 16) 1 (dkX12_comesOut (i := 7) rfl) rfl (by decide) ?_
    refine qr_isub (n := 17) (dkX12_comesOut (i := 8) rfl) rfl ?_
    refine qr_iald (n := 18) 33 64 (dkX12_comesOut (i := 9) rfl) rfl lmA_33 ?_
    refine qr_b (α := Int32) (S_1.1 33 (Int32.toNatClampNeg ((S_1.1 0 49) - 1))) (lvf := fun _ => [(0, .ref (G.2.2.1 0)), (1, .int x1)]) (stf := fun z => .int z :: []) (Sf := fun _ => S_1) (fun x2_1 => ?_)
    refine qr_istore_n (n := 19) (lv2 := [(0, .ref (G.2.2.1 0)), (1, .int x1), (2, .int x2_1)]) [1, 2, 0] (dkX12_comesOut (i := 10) rfl) rfl rfl (by decide) rfl ?_
    refine qr_iload_n (n := 20) 2 (dkX12_comesOut (i := 11) rfl) rfl rfl ?_
    refine qr_bipush (n := 22) 6 (dkX12_comesOut (i := 12) rfl) rfl (by decide) ?_
    refine qr_icmp_eq (t := 41) (n := 25) (dkX12_comesOut (i := 13) rfl) (by decide) rfl ?_ ?_
    · exact qr_vret (dkX12_comesOut (i := 22) rfl) rfl rfl
    · refine qr_iload_n (n := 26) 1 (dkX12_comesOut (i := 14) rfl) rfl rfl ?_
      refine qr_j (fun K_1 : Option qv_St => VV G Lm X RX12 cX12_comesOut 3 none 2 qe_u 42 [(0, .ref (G.2.2.1 0)), (1, .int x1), (2, .int x2_1)] [] S_1 (K_1)) (?_) (fun K_1 hK_1 => ?_)
      · refine qr_aload_n (n := 43) 0 (dkX12_comesOut (i := 23) rfl) rfl rfl ?_
        refine qr_dup (n := 44) (dkX12_comesOut (i := 24) rfl) rfl rfl ?_
        refine qr_geti (n := 47) 0 49 (dkX12_comesOut (i := 25) rfl) rfl lmO rfl gnX12 (Nat.le_of_ble_eq_true rfl) kfX12_303 rfl ?_
        refine qr_iconst (n := 48) 1 (dkX12_comesOut (i := 26) rfl) rfl (by decide) ?_
        refine qr_isub (n := 49) (dkX12_comesOut (i := 27) rfl) rfl ?_
        refine qr_puti (n := 52) 0 49 (dkX12_comesOut (i := 28) rfl) rfl lmO rfl gnX12 (Nat.le_of_ble_eq_true rfl) kfX12_303 rfl tyX12_ok nmX12 rfl rfl (fun S_2 => ?_)
        refine qr_aload_n (n := 53) 0 (dkX12_comesOut (i := 29) rfl) rfl rfl ?_
        refine qr_iload_n (n := 54) 2 (dkX12_comesOut (i := 30) rfl) rfl rfl ?_
        refine qr_bipush (n := 56) 8 (dkX12_comesOut (i := 31) rfl) rfl (by decide) ?_
        refine qr_j (fun K_2 : Int32 → Option qv_St => ∀ (t_1 : Int32), VV G Lm X RX12 cX12_comesOut 3 none 2 qe_u 84 [(0, .ref (G.2.2.1 0)), (1, .int x1)] [.int t_1, .ref (G.2.2.1 0)] S_2 (K_2 t_1)) (fun t_1 => ?_) (fun K_2 hK_2 => ?_)
        · refine qr_iconst (n := 85) 0 (dkX12_comesOut (i := 46) rfl) rfl (by decide) ?_
          refine qr_cvu (n := 88) 0 [.int t_1, .int 0] (dkX12_comesOut (i := 47) rfl) rfl kvX12_306 rfl rfl (Nat.le_of_ble_eq_true rfl) rfl rfl lmO rfl (wX12_emit G S_2 t_1 0) (fun S_3 => ?_)
          refine qr_goto (n := 0) (dkX12_comesOut (i := 48) rfl) (by decide) ?_
          exact hself_1 S_3
        · refine qr_icmp_ne (t := 63) (n := 59) (dkX12_comesOut (i := 32) rfl) (by decide) rfl ?_ ?_
          · refine qr_iload_n (n := 64) 2 (dkX12_comesOut (i := 35) rfl) rfl rfl ?_
            refine qr_bipush (n := 66) 9 (dkX12_comesOut (i := 36) rfl) rfl (by decide) ?_
            refine qr_icmp_ne (t := 73) (n := 69) (dkX12_comesOut (i := 37) rfl) (by decide) rfl ?_ ?_
            · refine qr_iload_n (n := 74) 2 (dkX12_comesOut (i := 40) rfl) rfl rfl ?_
              refine qr_bipush (n := 76) 10 (dkX12_comesOut (i := 41) rfl) rfl (by decide) ?_
              refine qr_icmp_ne (t := 83) (n := 79) (dkX12_comesOut (i := 42) rfl) (by decide) rfl ?_ ?_
              · refine qr_iconst (n := 84) 5 (dkX12_comesOut (i := 45) rfl) rfl (by decide) ?_
                refine qr_sub [0, 1] rfl ?_
                exact hK_2 5
              · refine qr_iconst (n := 80) 4 (dkX12_comesOut (i := 43) rfl) rfl (by decide) ?_
                refine qr_goto (n := 84) (dkX12_comesOut (i := 44) rfl) (by decide) ?_
                refine qr_sub [0, 1] rfl ?_
                exact hK_2 4
            · refine qr_iconst (n := 70) 3 (dkX12_comesOut (i := 38) rfl) rfl (by decide) ?_
              refine qr_goto (n := 84) (dkX12_comesOut (i := 39) rfl) (by decide) ?_
              refine qr_sub [0, 1] rfl ?_
              exact hK_2 3
          · refine qr_iconst (n := 60) 2 (dkX12_comesOut (i := 33) rfl) rfl (by decide) ?_
            refine qr_goto (n := 84) (dkX12_comesOut (i := 34) rfl) (by decide) ?_
            refine qr_sub [0, 1] rfl ?_
            exact hK_2 2
      · refine qr_if_eq (t := 42) (n := 29) (dkX12_comesOut (i := 15) rfl) (by decide) rfl ?_ ?_
        · exact hK_1
        · refine qr_iload_n (n := 30) 2 (dkX12_comesOut (i := 16) rfl) rfl rfl ?_
          refine qr_bipush (n := 32) 8 (dkX12_comesOut (i := 17) rfl) rfl (by decide) ?_
          refine qr_icmp_eq (t := 41) (n := 35) (dkX12_comesOut (i := 18) rfl) (by decide) rfl ?_ ?_
          · exact qr_vret (dkX12_comesOut (i := 22) rfl) rfl rfl
          · refine qr_iload_n (n := 36) 2 (dkX12_comesOut (i := 19) rfl) rfl rfl ?_
            refine qr_bipush (n := 38) 9 (dkX12_comesOut (i := 20) rfl) rfl (by decide) ?_
            refine qr_icmp_ne (t := 42) (n := 41) (dkX12_comesOut (i := 21) rfl) (by decide) rfl ?_ ?_
            · exact hK_1
            · exact qr_vret (dkX12_comesOut (i := 22) rfl) rfl rfl
def tbX12_expression : List (Nat × Instr × Nat) := [(0, .aload_n 0, 1), (1, .iconst 0, 1), (2, .putfield 303, 3), (5, .aload_n 0, 1), (6, .getfield 239, 3), (9, .istore_n 1, 1), (10, .iconst 1, 1), (11, .istore_n 2, 1), (12, .iload_n 2, 1), (13, .ifCond .eq 259, 3), (16, .aload_n 0, 1), (17, .getfield 212, 3), (20, .ifCond .ne 252, 3), (23, .aload_n 0, 1), (24, .bipush 6, 2), (26, .invokevirtual 230, 3), (29, .ifCond .eq 55, 3), (32, .aload_n 0, 1), (33, .getfield 239, 3), (36, .bipush 6, 2), (38, .if_icmp .ne 8, 3), (41, .aload_n 0, 1), (42, .iconst 2, 1), (43, .invokevirtual 227, 3), (46, .aload_n 0, 1), (47, .dup, 1), (48, .getfield 239, 3), (51, .iconst 1, 1), (52, .iadd, 1), (53, .putfield 239, 3), (56, .aload_n 0, 1), (57, .invokevirtual 233, 3), (60, .aload_n 0, 1), (61, .getfield 116, 3), (64, .aload_n 0, 1), (65, .getfield 303, 3), (68, .bipush 6, 2), (70, .iastore, 1), (71, .aload_n 0, 1), (72, .dup, 1), (73, .getfield 303, 3), (76, .iconst 1, 1), (77, .iadd, 1), (78, .putfield 303, 3), (81, .goto (-58), 3), (84, .aload_n 0, 1), (85, .invokevirtual 309, 3), (88, .aload_n 0, 1), (89, .getfield 212, 3), (92, .ifCond .le 4, 3), (95, .return_, 1), (96, .aload_n 0, 1), (97, .bipush 7, 2), (99, .invokevirtual 230, 3), (102, .ifCond .eq 43, 3), (105, .aload_n 0, 1), (106, .getfield 239, 3), (109, .iload_n 1, 1), (110, .if_icmp .le 35, 3), (113, .aload_n 0, 1), (114, .iconst 0, 1), (115, .invokevirtual 312, 3), (118, .aload_n 0, 1), (119, .dup, 1), (120, .getfield 303, 3), (123, .iconst 1, 1), (124, .isub, 1), (125, .putfield 303, 3), (128, .aload_n 0, 1), (129, .dup, 1), (130, .getfield 239, 3), (133, .iconst 1, 1), (134, .isub, 1), (135, .putfield 239, 3), (138, .aload_n 0, 1), (139, .invokevirtual 233, 3), (142, .goto (-46), 3), (145, .aload_n 0, 1), (146, .bipush 8, 2), (148, .invokevirtual 230, 3), (151, .ifCond .ne 30, 3), (154, .aload_n 0, 1), (155, .bipush 9, 2), (157, .invokevirtual 230, 3), (160, .ifCond .ne 21, 3), (163, .aload_n 0, 1), (164, .bipush 10, 2), (166, .invokevirtual 230, 3), (169, .ifCond .ne 12, 3), (172, .aload_n 0, 1), (173, .bipush 15, 2), (175, .invokevirtual 230, 3), (178, .ifCond .eq 7, 3), (181, .iconst 1, 1), (182, .goto 4, 3), (185, .iconst 0, 1), (186, .istore_n 2, 1), (187, .iload_n 2, 1), (188, .ifCond .ne 22, 3), (191, .aload_n 0, 1), (192, .getfield 239, 3), (195, .iload_n 1, 1), (196, .if_icmp .le 8, 3), (199, .aload_n 0, 1), (200, .iconst 1, 1), (201, .invokevirtual 227, 3), (204, .aload_n 0, 1), (205, .iconst 0, 1), (206, .invokevirtual 312, 3), (209, .return_, 1), (210, .aload_n 0, 1), (211, .aload_n 0, 1), (212, .bipush 10, 2), (214, .invokevirtual 230, 3), (217, .ifCond .ne 12, 3), (220, .aload_n 0, 1), (221, .bipush 15, 2), (223, .invokevirtual 230, 3), (226, .ifCond .eq 7, 3), (229, .iconst 1, 1), (230, .goto 4, 3), (233, .iconst 0, 1), (234, .invokevirtual 312, 3), (237, .aload_n 0, 1), (238, .getfield 116, 3), (241, .aload_n 0, 1), (242, .getfield 303, 3), (245, .aload_n 0, 1), (246, .getfield 20, 3), (249, .aload_n 0, 1), (250, .getfield 215, 3), (253, .iaload, 1), (254, .iastore, 1), (255, .aload_n 0, 1), (256, .dup, 1), (257, .getfield 303, 3), (260, .iconst 1, 1), (261, .iadd, 1), (262, .putfield 303, 3), (265, .aload_n 0, 1), (266, .invokevirtual 233, 3), (269, .goto (-257), 3), (272, .return_, 1)]
set_option maxRecDepth 20000 in
theorem daX12_expression : ∀ x ∈ tbX12_expression, decode cX12_expression x.1 = .ok x.2 := by decide +kernel
theorem dkX12_expression {i pc n : Nat} {ins : Instr} (h : tbX12_expression[i]? = some (pc, ins, n)) : decode cX12_expression pc = .ok (ins, n) := daX12_expression (pc, ins, n) (List.mem_of_getElem? h)
def fX12_expression (S0 : qv_St) : Option qv_St :=
  qv_b (qv_si S0 0 49 0) fun S_1 =>
  qv_b ((S_1.1 0 12) : Int32) fun x1_1 =>
  qv_j (fun (S_2 : qv_St) =>
    qv_j (fun (S_3 : qv_St) =>
      (fX12_comesOut S_3 0).bind fun S_4 =>
      some S_4) fun K_2 =>
    if (S_2.1 0 12) ≤ x1_1 then
      K_2 S_2
    else
      (fX12_fail S_2 1).bind fun S_5 =>
      K_2 S_5) fun K_1 =>
  qv_lp2 qv_N (fun self_1 (S_6 : qv_St) (x2_1 : Int32) =>
    if x2_1 = 0 then
      some S_6
    else
      if (S_6.1 0 13) = 0 then
        qv_j (fun (S_7 : qv_St) =>
          (fX12_unit S_7).bind fun S_8 =>
          if (S_8.1 0 13) ≤ 0 then
            qv_j (fun (S_9 : qv_St) =>
              (fX12_is S_9 8).bind fun r_1 =>
              qv_j (fun (t_1 : Int32) =>
                if t_1 = 0 then
                  K_1 S_9
                else
                  (fX12_is S_9 10).bind fun r_2 =>
                  qv_j (fun (t_2 : Int32) =>
                    (fX12_comesOut S_9 t_2).bind fun S_10 =>
                    qv_ck (S_10.1 0 11) 403 <|
                    qv_ck (S_10.1 0 49) 64 <| qv_b (qv_si S_10 33 (Int32.toNatClampNeg (S_10.1 0 49)) (S_10.1 3 (Int32.toNatClampNeg (S_10.1 0 11)))) fun S_11 =>
                    qv_b (qv_si S_11 0 49 ((S_11.1 0 49) + 1)) fun S_12 =>
                    (fX12_goesOn S_12).bind fun S_13 =>
                    self_1 S_13 t_1) fun K_6 =>
                  qv_j (
                    K_6 1) fun K_7 =>
                  if r_2 = 0 then
                    (fX12_is S_9 15).bind fun r_3 =>
                    if r_3 = 0 then
                      K_6 0
                    else
                      K_7
                  else
                    K_7) fun K_5 =>
              qv_j (
                K_5 1) fun K_8 =>
              if r_1 = 0 then
                (fX12_is S_9 9).bind fun r_4 =>
                if r_4 = 0 then
                  (fX12_is S_9 10).bind fun r_5 =>
                  if r_5 = 0 then
                    (fX12_is S_9 15).bind fun r_6 =>
                    if r_6 = 0 then
                      K_5 0
                    else
                      K_8
                  else
                    K_8
                else
                  K_8
              else
                K_8) fun K_4 =>
            qv_lp1 qv_N (fun self_2 (S_14 : qv_St) =>
              (fX12_is S_14 7).bind fun r_7 =>
              if r_7 = 0 then
                K_4 S_14
              else
                if (S_14.1 0 12) ≤ x1_1 then
                  K_4 S_14
                else
                  (fX12_comesOut S_14 0).bind fun S_15 =>
                  qv_b (qv_si S_15 0 49 ((S_15.1 0 49) - 1)) fun S_16 =>
                  qv_b (qv_si S_16 0 12 ((S_16.1 0 12) - 1)) fun S_17 =>
                  (fX12_goesOn S_17).bind fun S_18 =>
                  self_2 S_18) S_8
          else
            some S_8) fun K_3 =>
        qv_lp1 qv_N (fun self_3 (S_19 : qv_St) =>
          (fX12_is S_19 6).bind fun r_8 =>
          if r_8 = 0 then
            K_3 S_19
          else
            qv_j (fun (S_20 : qv_St) =>
              qv_b (qv_si S_20 0 12 ((S_20.1 0 12) + 1)) fun S_21 =>
              (fX12_goesOn S_21).bind fun S_22 =>
              qv_ck (S_22.1 0 49) 64 <| qv_b (qv_si S_22 33 (Int32.toNatClampNeg (S_22.1 0 49)) 6) fun S_23 =>
              qv_b (qv_si S_23 0 49 ((S_23.1 0 49) + 1)) fun S_24 =>
              self_3 S_24) fun K_9 =>
            if (S_19.1 0 12) = 6 then
              (fX12_fail S_19 2).bind fun S_25 =>
              K_9 S_25
            else
              K_9 S_19) S_6
      else
        some S_6) S_1 1
set_option maxRecDepth 20000 in
set_option maxHeartbeats 4000000 in
theorem wX12_expression (G : qv_GT) (S0 : qv_St) : ∀ r, fX12_expression S0 = some r → Cn G Lm yX12_expression cX12_expression 3 none 4 [.ref (G.2.2.1 0)] S0 (qe_u r) := by
  refine cn_of (own := RX12) (emb := qe_u) (lv := [(0, .ref (G.2.2.1 0))]) rfl rfl (Nat.le_of_ble_eq_true rfl) rfl (fun X => ?_)
  unfold fX12_expression
  refine qr_aload_n (n := 1) 0 (dkX12_expression (i := 0) rfl) rfl rfl ?_
  refine qr_iconst (n := 2) 0 (dkX12_expression (i := 1) rfl) rfl (by decide) ?_
  refine qr_puti (n := 5) 0 49 (dkX12_expression (i := 2) rfl) rfl lmO rfl gnX12 (Nat.le_of_ble_eq_true rfl) kfX12_303 rfl tyX12_ok nmX12 rfl rfl (fun S_1 => ?_)
  refine qr_aload_n (n := 6) 0 (dkX12_expression (i := 3) rfl) rfl rfl ?_
  refine qr_geti (n := 9) 0 12 (dkX12_expression (i := 4) rfl) rfl lmO rfl gnX12 (Nat.le_of_ble_eq_true rfl) kfX12_239 rfl ?_
  refine qr_b (α := Int32) (S_1.1 0 12) (lvf := fun _ => [(0, .ref (G.2.2.1 0))]) (stf := fun z => .int z :: []) (Sf := fun _ => S_1) (fun x1_1 => ?_)
  refine qr_istore_n (n := 10) (lv2 := [(0, .ref (G.2.2.1 0)), (1, .int x1_1)]) [1, 0] (dkX12_expression (i := 5) rfl) rfl rfl (by decide) rfl ?_
  refine qr_iconst (n := 11) 1 (dkX12_expression (i := 6) rfl) rfl (by decide) ?_
  refine qr_istore_n (n := 12) (lv2 := [(0, .ref (G.2.2.1 0)), (1, .int x1_1), (2, .int 1)]) [1, 2, 0] (dkX12_expression (i := 7) rfl) rfl rfl (by decide) rfl ?_
  refine qr_j (fun K_1 : qv_St → Option qv_St => ∀ (S_2 : qv_St), VV G Lm X RX12 cX12_expression 3 none 4 qe_u 191 [(0, .ref (G.2.2.1 0)), (1, .int x1_1)] [] S_2 (K_1 S_2)) (fun S_2 => ?_) (fun K_1 hK_1 => ?_)
  · refine qr_aload_n (n := 192) 0 (dkX12_expression (i := 99) rfl) rfl rfl ?_
    refine qr_geti (n := 195) 0 12 (dkX12_expression (i := 100) rfl) rfl lmO rfl gnX12 (Nat.le_of_ble_eq_true rfl) kfX12_239 rfl ?_
    refine qr_iload_n (n := 196) 1 (dkX12_expression (i := 101) rfl) rfl rfl ?_
    refine qr_j (fun K_2 : qv_St → Option qv_St => ∀ (S_3 : qv_St), VV G Lm X RX12 cX12_expression 3 none 4 qe_u 204 [(0, .ref (G.2.2.1 0))] [] S_3 (K_2 S_3)) (fun S_3 => ?_) (fun K_2 hK_2 => ?_)
    · refine qr_aload_n (n := 205) 0 (dkX12_expression (i := 106) rfl) rfl rfl ?_
      refine qr_iconst (n := 206) 0 (dkX12_expression (i := 107) rfl) rfl (by decide) ?_
      refine qr_cvu (n := 209) 0 [.int 0] (dkX12_expression (i := 108) rfl) rfl kvX12_312 rfl rfl (Nat.le_of_ble_eq_true rfl) rfl rfl lmO rfl (wX12_comesOut G S_3 0) (fun S_4 => ?_)
      exact qr_vret (dkX12_expression (i := 109) rfl) rfl rfl
    · refine qr_icmp_le (t := 204) (n := 199) (dkX12_expression (i := 102) rfl) (by decide) rfl ?_ ?_
      · refine qr_sub [0] rfl ?_
        exact hK_2 S_2
      · refine qr_aload_n (n := 200) 0 (dkX12_expression (i := 103) rfl) rfl rfl ?_
        refine qr_iconst (n := 201) 1 (dkX12_expression (i := 104) rfl) rfl (by decide) ?_
        refine qr_cvu (n := 204) 0 [.int 1] (dkX12_expression (i := 105) rfl) rfl kvX12_227 rfl rfl (Nat.le_of_ble_eq_true rfl) rfl rfl lmO rfl (wX12_fail G S_2 1) (fun S_5 => ?_)
        refine qr_sub [0] rfl ?_
        exact hK_2 S_5
  · refine qr_lp2 (fun (S_6 : qv_St) (x2_1 : Int32) => [(0, .ref (G.2.2.1 0)), (1, .int x1_1), (2, .int x2_1)]) (fun (S_6 : qv_St) (x2_1 : Int32) => S_6) (fun self_1 hself_1 S_6 x2_1 => ?_) qv_N S_1 1
    refine qr_iload_n (n := 13) 2 (dkX12_expression (i := 8) rfl) rfl rfl ?_
    refine qr_if_eq (t := 272) (n := 16) (dkX12_expression (i := 9) rfl) (by decide) rfl ?_ ?_
    · exact qr_vret (dkX12_expression (i := 142) rfl) rfl rfl
    · refine qr_aload_n (n := 17) 0 (dkX12_expression (i := 10) rfl) rfl rfl ?_
      refine qr_geti (n := 20) 0 13 (dkX12_expression (i := 11) rfl) rfl lmO rfl gnX12 (Nat.le_of_ble_eq_true rfl) kfX12_212 rfl ?_
      refine qr_if_ne (t := 272) (n := 23) (dkX12_expression (i := 12) rfl) (by decide) rfl ?_ ?_
      · exact qr_vret (dkX12_expression (i := 142) rfl) rfl rfl
      · refine qr_sub [0, 1] rfl ?_
        refine qr_j (fun K_3 : qv_St → Option qv_St => ∀ (S_7 : qv_St), VV G Lm X RX12 cX12_expression 3 none 4 qe_u 84 [(0, .ref (G.2.2.1 0)), (1, .int x1_1)] [] S_7 (K_3 S_7)) (fun S_7 => ?_) (fun K_3 hK_3 => ?_)
        · refine qr_aload_n (n := 85) 0 (dkX12_expression (i := 45) rfl) rfl rfl ?_
          refine qr_cvu (n := 88) 0 [] (dkX12_expression (i := 46) rfl) rfl kvX12_309 rfl rfl (Nat.le_of_ble_eq_true rfl) rfl rfl lmO rfl (wX12_unit G S_7) (fun S_8 => ?_)
          refine qr_aload_n (n := 89) 0 (dkX12_expression (i := 47) rfl) rfl rfl ?_
          refine qr_geti (n := 92) 0 13 (dkX12_expression (i := 48) rfl) rfl lmO rfl gnX12 (Nat.le_of_ble_eq_true rfl) kfX12_212 rfl ?_
          refine qr_if_le (t := 96) (n := 95) (dkX12_expression (i := 49) rfl) (by decide) rfl ?_ ?_
          · refine qr_j (fun K_4 : qv_St → Option qv_St => ∀ (S_9 : qv_St), VV G Lm X RX12 cX12_expression 3 none 4 qe_u 145 [(0, .ref (G.2.2.1 0)), (1, .int x1_1)] [] S_9 (K_4 S_9)) (fun S_9 => ?_) (fun K_4 hK_4 => ?_)
            · refine qr_aload_n (n := 146) 0 (dkX12_expression (i := 77) rfl) rfl rfl ?_
              refine qr_bipush (n := 148) 8 (dkX12_expression (i := 78) rfl) rfl (by decide) ?_
              refine qr_cvi (n := 151) 0 [.int 8] (dkX12_expression (i := 79) rfl) rfl kvX12_230 rfl rfl (Nat.le_of_ble_eq_true rfl) rfl rfl lmO rfl (wX12_is G S_9 8) (fun r_1 => ?_)
              refine qr_j (fun K_5 : Int32 → Option qv_St => ∀ (t_1 : Int32), VV G Lm X RX12 cX12_expression 3 none 4 qe_u 186 [(0, .ref (G.2.2.1 0)), (1, .int x1_1)] [.int t_1] S_9 (K_5 t_1)) (fun t_1 => ?_) (fun K_5 hK_5 => ?_)
              · refine qr_istore_n (n := 187) (lv2 := [(0, .ref (G.2.2.1 0)), (1, .int x1_1), (2, .int t_1)]) [1, 2, 0] (dkX12_expression (i := 96) rfl) rfl rfl (by decide) rfl ?_
                refine qr_iload_n (n := 188) 2 (dkX12_expression (i := 97) rfl) rfl rfl ?_
                refine qr_if_ne (t := 210) (n := 191) (dkX12_expression (i := 98) rfl) (by decide) rfl ?_ ?_
                · refine qr_aload_n (n := 211) 0 (dkX12_expression (i := 110) rfl) rfl rfl ?_
                  refine qr_aload_n (n := 212) 0 (dkX12_expression (i := 111) rfl) rfl rfl ?_
                  refine qr_bipush (n := 214) 10 (dkX12_expression (i := 112) rfl) rfl (by decide) ?_
                  refine qr_cvi (n := 217) 0 [.int 10] (dkX12_expression (i := 113) rfl) rfl kvX12_230 rfl rfl (Nat.le_of_ble_eq_true rfl) rfl rfl lmO rfl (wX12_is G S_9 10) (fun r_2 => ?_)
                  refine qr_j (fun K_6 : Int32 → Option qv_St => ∀ (t_2 : Int32), VV G Lm X RX12 cX12_expression 3 none 4 qe_u 234 [(0, .ref (G.2.2.1 0)), (1, .int x1_1), (2, .int t_1)] [.int t_2, .ref (G.2.2.1 0)] S_9 (K_6 t_2)) (fun t_2 => ?_) (fun K_6 hK_6 => ?_)
                  · refine qr_cvu (n := 237) 0 [.int t_2] (dkX12_expression (i := 122) rfl) rfl kvX12_312 rfl rfl (Nat.le_of_ble_eq_true rfl) rfl rfl lmO rfl (wX12_comesOut G S_9 t_2) (fun S_10 => ?_)
                    refine qr_aload_n (n := 238) 0 (dkX12_expression (i := 123) rfl) rfl rfl ?_
                    refine qr_geta (n := 241) 0 48 33 (dkX12_expression (i := 124) rfl) rfl lmO rfl gnX12 (Nat.le_of_ble_eq_true rfl) kfX12_116 rfl ?_
                    refine qr_aload_n (n := 242) 0 (dkX12_expression (i := 125) rfl) rfl rfl ?_
                    refine qr_geti (n := 245) 0 49 (dkX12_expression (i := 126) rfl) rfl lmO rfl gnX12 (Nat.le_of_ble_eq_true rfl) kfX12_303 rfl ?_
                    refine qr_aload_n (n := 246) 0 (dkX12_expression (i := 127) rfl) rfl rfl ?_
                    refine qr_geta (n := 249) 0 5 3 (dkX12_expression (i := 128) rfl) rfl lmO rfl gnX12 (Nat.le_of_ble_eq_true rfl) kfX12_20 rfl ?_
                    refine qr_aload_n (n := 250) 0 (dkX12_expression (i := 129) rfl) rfl rfl ?_
                    refine qr_geti (n := 253) 0 11 (dkX12_expression (i := 130) rfl) rfl lmO rfl gnX12 (Nat.le_of_ble_eq_true rfl) kfX12_215 rfl ?_
                    refine qr_iald (n := 254) 3 403 (dkX12_expression (i := 131) rfl) rfl lmA_3 ?_
                    refine qr_iast (n := 255) 33 64 (dkX12_expression (i := 132) rfl) rfl lmA_33 (fun S_11 => ?_)
                    refine qr_aload_n (n := 256) 0 (dkX12_expression (i := 133) rfl) rfl rfl ?_
                    refine qr_dup (n := 257) (dkX12_expression (i := 134) rfl) rfl rfl ?_
                    refine qr_geti (n := 260) 0 49 (dkX12_expression (i := 135) rfl) rfl lmO rfl gnX12 (Nat.le_of_ble_eq_true rfl) kfX12_303 rfl ?_
                    refine qr_iconst (n := 261) 1 (dkX12_expression (i := 136) rfl) rfl (by decide) ?_
                    refine qr_iadd (n := 262) (dkX12_expression (i := 137) rfl) rfl ?_
                    refine qr_puti (n := 265) 0 49 (dkX12_expression (i := 138) rfl) rfl lmO rfl gnX12 (Nat.le_of_ble_eq_true rfl) kfX12_303 rfl tyX12_ok nmX12 rfl rfl (fun S_12 => ?_)
                    refine qr_aload_n (n := 266) 0 (dkX12_expression (i := 139) rfl) rfl rfl ?_
                    refine qr_cvu (n := 269) 0 [] (dkX12_expression (i := 140) rfl) rfl kvX12_233 rfl rfl (Nat.le_of_ble_eq_true rfl) rfl rfl lmO rfl (wX12_goesOn G S_12) (fun S_13 => ?_)
                    refine qr_goto (n := 12) (dkX12_expression (i := 141) rfl) (by decide) ?_
                    exact hself_1 S_13 t_1
                  · refine qr_j (fun K_7 : Option qv_St => VV G Lm X RX12 cX12_expression 3 none 4 qe_u 229 [(0, .ref (G.2.2.1 0)), (1, .int x1_1), (2, .int t_1)] [.ref (G.2.2.1 0)] S_9 (K_7)) (?_) (fun K_7 hK_7 => ?_)
                    · refine qr_iconst (n := 230) 1 (dkX12_expression (i := 119) rfl) rfl (by decide) ?_
                      refine qr_goto (n := 234) (dkX12_expression (i := 120) rfl) (by decide) ?_
                      exact hK_6 1
                    · refine qr_if_ne (t := 229) (n := 220) (dkX12_expression (i := 114) rfl) (by decide) rfl ?_ ?_
                      · exact hK_7
                      · refine qr_aload_n (n := 221) 0 (dkX12_expression (i := 115) rfl) rfl rfl ?_
                        refine qr_bipush (n := 223) 15 (dkX12_expression (i := 116) rfl) rfl (by decide) ?_
                        refine qr_cvi (n := 226) 0 [.int 15] (dkX12_expression (i := 117) rfl) rfl kvX12_230 rfl rfl (Nat.le_of_ble_eq_true rfl) rfl rfl lmO rfl (wX12_is G S_9 15) (fun r_3 => ?_)
                        refine qr_if_eq (t := 233) (n := 229) (dkX12_expression (i := 118) rfl) (by decide) rfl ?_ ?_
                        · refine qr_iconst (n := 234) 0 (dkX12_expression (i := 121) rfl) rfl (by decide) ?_
                          exact hK_6 0
                        · exact hK_7
                · refine qr_sub [0, 1] rfl ?_
                  exact hK_1 S_9
              · refine qr_j (fun K_8 : Option qv_St => VV G Lm X RX12 cX12_expression 3 none 4 qe_u 181 [(0, .ref (G.2.2.1 0)), (1, .int x1_1)] [] S_9 (K_8)) (?_) (fun K_8 hK_8 => ?_)
                · refine qr_iconst (n := 182) 1 (dkX12_expression (i := 93) rfl) rfl (by decide) ?_
                  refine qr_goto (n := 186) (dkX12_expression (i := 94) rfl) (by decide) ?_
                  exact hK_5 1
                · refine qr_if_ne (t := 181) (n := 154) (dkX12_expression (i := 80) rfl) (by decide) rfl ?_ ?_
                  · exact hK_8
                  · refine qr_aload_n (n := 155) 0 (dkX12_expression (i := 81) rfl) rfl rfl ?_
                    refine qr_bipush (n := 157) 9 (dkX12_expression (i := 82) rfl) rfl (by decide) ?_
                    refine qr_cvi (n := 160) 0 [.int 9] (dkX12_expression (i := 83) rfl) rfl kvX12_230 rfl rfl (Nat.le_of_ble_eq_true rfl) rfl rfl lmO rfl (wX12_is G S_9 9) (fun r_4 => ?_)
                    refine qr_if_ne (t := 181) (n := 163) (dkX12_expression (i := 84) rfl) (by decide) rfl ?_ ?_
                    · exact hK_8
                    · refine qr_aload_n (n := 164) 0 (dkX12_expression (i := 85) rfl) rfl rfl ?_
                      refine qr_bipush (n := 166) 10 (dkX12_expression (i := 86) rfl) rfl (by decide) ?_
                      refine qr_cvi (n := 169) 0 [.int 10] (dkX12_expression (i := 87) rfl) rfl kvX12_230 rfl rfl (Nat.le_of_ble_eq_true rfl) rfl rfl lmO rfl (wX12_is G S_9 10) (fun r_5 => ?_)
                      refine qr_if_ne (t := 181) (n := 172) (dkX12_expression (i := 88) rfl) (by decide) rfl ?_ ?_
                      · exact hK_8
                      · refine qr_aload_n (n := 173) 0 (dkX12_expression (i := 89) rfl) rfl rfl ?_
                        refine qr_bipush (n := 175) 15 (dkX12_expression (i := 90) rfl) rfl (by decide) ?_
                        refine qr_cvi (n := 178) 0 [.int 15] (dkX12_expression (i := 91) rfl) rfl kvX12_230 rfl rfl (Nat.le_of_ble_eq_true rfl) rfl rfl lmO rfl (wX12_is G S_9 15) (fun r_6 => ?_)
                        refine qr_if_eq (t := 185) (n := 181) (dkX12_expression (i := 92) rfl) (by decide) rfl ?_ ?_
                        · refine qr_iconst (n := 186) 0 (dkX12_expression (i := 95) rfl) rfl (by decide) ?_
                          exact hK_5 0
                        · exact hK_8
            · refine qr_lp1 (fun (S_14 : qv_St) => [(0, .ref (G.2.2.1 0)), (1, .int x1_1)]) (fun (S_14 : qv_St) => S_14) (fun self_2 hself_2 S_14 => ?_) qv_N S_8
              refine qr_aload_n (n := 97) 0 (dkX12_expression (i := 51) rfl) rfl rfl ?_
              refine qr_bipush (n := 99) 7 (dkX12_expression (i := 52) rfl) rfl (by decide) ?_
              refine qr_cvi (n := 102) 0 [.int 7] (dkX12_expression (i := 53) rfl) rfl kvX12_230 rfl rfl (Nat.le_of_ble_eq_true rfl) rfl rfl lmO rfl (wX12_is G S_14 7) (fun r_7 => ?_)
              refine qr_if_eq (t := 145) (n := 105) (dkX12_expression (i := 54) rfl) (by decide) rfl ?_ ?_
              · exact hK_4 S_14
              · refine qr_aload_n (n := 106) 0 (dkX12_expression (i := 55) rfl) rfl rfl ?_
                refine qr_geti (n := 109) 0 12 (dkX12_expression (i := 56) rfl) rfl lmO rfl gnX12 (Nat.le_of_ble_eq_true rfl) kfX12_239 rfl ?_
                refine qr_iload_n (n := 110) 1 (dkX12_expression (i := 57) rfl) rfl rfl ?_
                refine qr_icmp_le (t := 145) (n := 113) (dkX12_expression (i := 58) rfl) (by decide) rfl ?_ ?_
                · exact hK_4 S_14
                · refine qr_aload_n (n := 114) 0 (dkX12_expression (i := 59) rfl) rfl rfl ?_
                  refine qr_iconst (n := 115) 0 (dkX12_expression (i := 60) rfl) rfl (by decide) ?_
                  refine qr_cvu (n := 118) 0 [.int 0] (dkX12_expression (i := 61) rfl) rfl kvX12_312 rfl rfl (Nat.le_of_ble_eq_true rfl) rfl rfl lmO rfl (wX12_comesOut G S_14 0) (fun S_15 => ?_)
                  refine qr_aload_n (n := 119) 0 (dkX12_expression (i := 62) rfl) rfl rfl ?_
                  refine qr_dup (n := 120) (dkX12_expression (i := 63) rfl) rfl rfl ?_
                  refine qr_geti (n := 123) 0 49 (dkX12_expression (i := 64) rfl) rfl lmO rfl gnX12 (Nat.le_of_ble_eq_true rfl) kfX12_303 rfl ?_
                  refine qr_iconst (n := 124) 1 (dkX12_expression (i := 65) rfl) rfl (by decide) ?_
                  refine qr_isub (n := 125) (dkX12_expression (i := 66) rfl) rfl ?_
                  refine qr_puti (n := 128) 0 49 (dkX12_expression (i := 67) rfl) rfl lmO rfl gnX12 (Nat.le_of_ble_eq_true rfl) kfX12_303 rfl tyX12_ok nmX12 rfl rfl (fun S_16 => ?_)
                  refine qr_aload_n (n := 129) 0 (dkX12_expression (i := 68) rfl) rfl rfl ?_
                  refine qr_dup (n := 130) (dkX12_expression (i := 69) rfl) rfl rfl ?_
                  refine qr_geti (n := 133) 0 12 (dkX12_expression (i := 70) rfl) rfl lmO rfl gnX12 (Nat.le_of_ble_eq_true rfl) kfX12_239 rfl ?_
                  refine qr_iconst (n := 134) 1 (dkX12_expression (i := 71) rfl) rfl (by decide) ?_
                  refine qr_isub (n := 135) (dkX12_expression (i := 72) rfl) rfl ?_
                  refine qr_puti (n := 138) 0 12 (dkX12_expression (i := 73) rfl) rfl lmO rfl gnX12 (Nat.le_of_ble_eq_true rfl) kfX12_239 rfl tyX12_ok nmX12 rfl rfl (fun S_17 => ?_)
                  refine qr_aload_n (n := 139) 0 (dkX12_expression (i := 74) rfl) rfl rfl ?_
                  refine qr_cvu (n := 142) 0 [] (dkX12_expression (i := 75) rfl) rfl kvX12_233 rfl rfl (Nat.le_of_ble_eq_true rfl) rfl rfl lmO rfl (wX12_goesOn G S_17) (fun S_18 => ?_)
                  refine qr_goto (n := 96) (dkX12_expression (i := 76) rfl) (by decide) ?_
                  exact hself_2 S_18
          · exact qr_vret (dkX12_expression (i := 50) rfl) rfl rfl
        · refine qr_lp1 (fun (S_19 : qv_St) => [(0, .ref (G.2.2.1 0)), (1, .int x1_1)]) (fun (S_19 : qv_St) => S_19) (fun self_3 hself_3 S_19 => ?_) qv_N S_6
          refine qr_aload_n (n := 24) 0 (dkX12_expression (i := 13) rfl) rfl rfl ?_
          refine qr_bipush (n := 26) 6 (dkX12_expression (i := 14) rfl) rfl (by decide) ?_
          refine qr_cvi (n := 29) 0 [.int 6] (dkX12_expression (i := 15) rfl) rfl kvX12_230 rfl rfl (Nat.le_of_ble_eq_true rfl) rfl rfl lmO rfl (wX12_is G S_19 6) (fun r_8 => ?_)
          refine qr_if_eq (t := 84) (n := 32) (dkX12_expression (i := 16) rfl) (by decide) rfl ?_ ?_
          · exact hK_3 S_19
          · refine qr_aload_n (n := 33) 0 (dkX12_expression (i := 17) rfl) rfl rfl ?_
            refine qr_geti (n := 36) 0 12 (dkX12_expression (i := 18) rfl) rfl lmO rfl gnX12 (Nat.le_of_ble_eq_true rfl) kfX12_239 rfl ?_
            refine qr_bipush (n := 38) 6 (dkX12_expression (i := 19) rfl) rfl (by decide) ?_
            refine qr_j (fun K_9 : qv_St → Option qv_St => ∀ (S_20 : qv_St), VV G Lm X RX12 cX12_expression 3 none 4 qe_u 46 [(0, .ref (G.2.2.1 0)), (1, .int x1_1)] [] S_20 (K_9 S_20)) (fun S_20 => ?_) (fun K_9 hK_9 => ?_)
            · refine qr_aload_n (n := 47) 0 (dkX12_expression (i := 24) rfl) rfl rfl ?_
              refine qr_dup (n := 48) (dkX12_expression (i := 25) rfl) rfl rfl ?_
              refine qr_geti (n := 51) 0 12 (dkX12_expression (i := 26) rfl) rfl lmO rfl gnX12 (Nat.le_of_ble_eq_true rfl) kfX12_239 rfl ?_
              refine qr_iconst (n := 52) 1 (dkX12_expression (i := 27) rfl) rfl (by decide) ?_
              refine qr_iadd (n := 53) (dkX12_expression (i := 28) rfl) rfl ?_
              refine qr_puti (n := 56) 0 12 (dkX12_expression (i := 29) rfl) rfl lmO rfl gnX12 (Nat.le_of_ble_eq_true rfl) kfX12_239 rfl tyX12_ok nmX12 rfl rfl (fun S_21 => ?_)
              refine qr_aload_n (n := 57) 0 (dkX12_expression (i := 30) rfl) rfl rfl ?_
              refine qr_cvu (n := 60) 0 [] (dkX12_expression (i := 31) rfl) rfl kvX12_233 rfl rfl (Nat.le_of_ble_eq_true rfl) rfl rfl lmO rfl (wX12_goesOn G S_21) (fun S_22 => ?_)
              refine qr_aload_n (n := 61) 0 (dkX12_expression (i := 32) rfl) rfl rfl ?_
              refine qr_geta (n := 64) 0 48 33 (dkX12_expression (i := 33) rfl) rfl lmO rfl gnX12 (Nat.le_of_ble_eq_true rfl) kfX12_116 rfl ?_
              refine qr_aload_n (n := 65) 0 (dkX12_expression (i := 34) rfl) rfl rfl ?_
              refine qr_geti (n := 68) 0 49 (dkX12_expression (i := 35) rfl) rfl lmO rfl gnX12 (Nat.le_of_ble_eq_true rfl) kfX12_303 rfl ?_
              refine qr_bipush (n := 70) 6 (dkX12_expression (i := 36) rfl) rfl (by decide) ?_
              refine qr_iast (n := 71) 33 64 (dkX12_expression (i := 37) rfl) rfl lmA_33 (fun S_23 => ?_)
              refine qr_aload_n (n := 72) 0 (dkX12_expression (i := 38) rfl) rfl rfl ?_
              refine qr_dup (n := 73) (dkX12_expression (i := 39) rfl) rfl rfl ?_
              refine qr_geti (n := 76) 0 49 (dkX12_expression (i := 40) rfl) rfl lmO rfl gnX12 (Nat.le_of_ble_eq_true rfl) kfX12_303 rfl ?_
              refine qr_iconst (n := 77) 1 (dkX12_expression (i := 41) rfl) rfl (by decide) ?_
              refine qr_iadd (n := 78) (dkX12_expression (i := 42) rfl) rfl ?_
              refine qr_puti (n := 81) 0 49 (dkX12_expression (i := 43) rfl) rfl lmO rfl gnX12 (Nat.le_of_ble_eq_true rfl) kfX12_303 rfl tyX12_ok nmX12 rfl rfl (fun S_24 => ?_)
              refine qr_goto (n := 23) (dkX12_expression (i := 44) rfl) (by decide) ?_
              exact hself_3 S_24
            · refine qr_icmp_ne (t := 46) (n := 41) (dkX12_expression (i := 20) rfl) (by decide) rfl ?_ ?_
              · exact hK_9 S_19
              · refine qr_aload_n (n := 42) 0 (dkX12_expression (i := 21) rfl) rfl rfl ?_
                refine qr_iconst (n := 43) 2 (dkX12_expression (i := 22) rfl) rfl (by decide) ?_
                refine qr_cvu (n := 46) 0 [.int 2] (dkX12_expression (i := 23) rfl) rfl kvX12_227 rfl rfl (Nat.le_of_ble_eq_true rfl) rfl rfl lmO rfl (wX12_fail G S_19 2) (fun S_25 => ?_)
                exact hK_9 S_25
def tbX12_term : List (Nat × Instr × Nat) := [(0, .aload_n 0, 1), (1, .getfield 104, 3), (4, .aload_n 0, 1), (5, .getfield 251, 3), (8, .aload_n 0, 1), (9, .getfield 254, 3), (12, .iastore, 1), (13, .aload_n 0, 1), (14, .getfield 212, 3), (17, .ifCond .ne 7, 3), (20, .aload_n 0, 1), (21, .invokevirtual 297, 3), (24, .aload_n 0, 1), (25, .getfield 107, 3), (28, .aload_n 0, 1), (29, .getfield 251, 3), (32, .aload_n 0, 1), (33, .getfield 254, 3), (36, .iastore, 1), (37, .aload_n 0, 1), (38, .dup, 1), (39, .getfield 251, 3), (42, .iconst 1, 1), (43, .iadd, 1), (44, .putfield 251, 3), (47, .return_, 1)]
set_option maxRecDepth 20000 in
theorem daX12_term : ∀ x ∈ tbX12_term, decode cX12_term x.1 = .ok x.2 := by decide +kernel
theorem dkX12_term {i pc n : Nat} {ins : Instr} (h : tbX12_term[i]? = some (pc, ins, n)) : decode cX12_term pc = .ok (ins, n) := daX12_term (pc, ins, n) (List.mem_of_getElem? h)
def fX12_term (S0 : qv_St) : Option qv_St :=
  qv_ck (S0.1 0 39) 260 <| qv_b (qv_si S0 29 (Int32.toNatClampNeg (S0.1 0 39)) (S0.1 0 45)) fun S_1 =>
  qv_j (fun (S_2 : qv_St) =>
    qv_ck (S_2.1 0 39) 260 <| qv_b (qv_si S_2 30 (Int32.toNatClampNeg (S_2.1 0 39)) (S_2.1 0 45)) fun S_3 =>
    qv_b (qv_si S_3 0 39 ((S_3.1 0 39) + 1)) fun S_4 =>
    some S_4) fun K_1 =>
  if (S_1.1 0 13) = 0 then
    (fX12_expression S_1).bind fun S_5 =>
    K_1 S_5
  else
    K_1 S_1
set_option maxRecDepth 20000 in
set_option maxHeartbeats 4000000 in
theorem wX12_term (G : qv_GT) (S0 : qv_St) : ∀ r, fX12_term S0 = some r → Cn G Lm yX12_term cX12_term 1 none 5 [.ref (G.2.2.1 0)] S0 (qe_u r) := by
  refine cn_of (own := RX12) (emb := qe_u) (lv := [(0, .ref (G.2.2.1 0))]) rfl rfl (Nat.le_of_ble_eq_true rfl) rfl (fun X => ?_)
  unfold fX12_term
  refine qr_aload_n (n := 1) 0 (dkX12_term (i := 0) rfl) rfl rfl ?_
  refine qr_geta (n := 4) 0 43 29 (dkX12_term (i := 1) rfl) rfl lmO rfl gnX12 (Nat.le_of_ble_eq_true rfl) kfX12_104 rfl ?_
  refine qr_aload_n (n := 5) 0 (dkX12_term (i := 2) rfl) rfl rfl ?_
  refine qr_geti (n := 8) 0 39 (dkX12_term (i := 3) rfl) rfl lmO rfl gnX12 (Nat.le_of_ble_eq_true rfl) kfX12_251 rfl ?_
  refine qr_aload_n (n := 9) 0 (dkX12_term (i := 4) rfl) rfl rfl ?_
  refine qr_geti (n := 12) 0 45 (dkX12_term (i := 5) rfl) rfl lmO rfl gnX12 (Nat.le_of_ble_eq_true rfl) kfX12_254 rfl ?_
  refine qr_iast (n := 13) 29 260 (dkX12_term (i := 6) rfl) rfl lmA_29 (fun S_1 => ?_)
  refine qr_aload_n (n := 14) 0 (dkX12_term (i := 7) rfl) rfl rfl ?_
  refine qr_geti (n := 17) 0 13 (dkX12_term (i := 8) rfl) rfl lmO rfl gnX12 (Nat.le_of_ble_eq_true rfl) kfX12_212 rfl ?_
  refine qr_j (fun K_1 : qv_St → Option qv_St => ∀ (S_2 : qv_St), VV G Lm X RX12 cX12_term 1 none 5 qe_u 24 [(0, .ref (G.2.2.1 0))] [] S_2 (K_1 S_2)) (fun S_2 => ?_) (fun K_1 hK_1 => ?_)
  · refine qr_aload_n (n := 25) 0 (dkX12_term (i := 12) rfl) rfl rfl ?_
    refine qr_geta (n := 28) 0 44 30 (dkX12_term (i := 13) rfl) rfl lmO rfl gnX12 (Nat.le_of_ble_eq_true rfl) kfX12_107 rfl ?_
    refine qr_aload_n (n := 29) 0 (dkX12_term (i := 14) rfl) rfl rfl ?_
    refine qr_geti (n := 32) 0 39 (dkX12_term (i := 15) rfl) rfl lmO rfl gnX12 (Nat.le_of_ble_eq_true rfl) kfX12_251 rfl ?_
    refine qr_aload_n (n := 33) 0 (dkX12_term (i := 16) rfl) rfl rfl ?_
    refine qr_geti (n := 36) 0 45 (dkX12_term (i := 17) rfl) rfl lmO rfl gnX12 (Nat.le_of_ble_eq_true rfl) kfX12_254 rfl ?_
    refine qr_iast (n := 37) 30 260 (dkX12_term (i := 18) rfl) rfl lmA_30 (fun S_3 => ?_)
    refine qr_aload_n (n := 38) 0 (dkX12_term (i := 19) rfl) rfl rfl ?_
    refine qr_dup (n := 39) (dkX12_term (i := 20) rfl) rfl rfl ?_
    refine qr_geti (n := 42) 0 39 (dkX12_term (i := 21) rfl) rfl lmO rfl gnX12 (Nat.le_of_ble_eq_true rfl) kfX12_251 rfl ?_
    refine qr_iconst (n := 43) 1 (dkX12_term (i := 22) rfl) rfl (by decide) ?_
    refine qr_iadd (n := 44) (dkX12_term (i := 23) rfl) rfl ?_
    refine qr_puti (n := 47) 0 39 (dkX12_term (i := 24) rfl) rfl lmO rfl gnX12 (Nat.le_of_ble_eq_true rfl) kfX12_251 rfl tyX12_ok nmX12 rfl rfl (fun S_4 => ?_)
    exact qr_vret (dkX12_term (i := 25) rfl) rfl rfl
  · refine qr_if_ne (t := 24) (n := 20) (dkX12_term (i := 9) rfl) (by decide) rfl ?_ ?_
    · exact hK_1 S_1
    · refine qr_aload_n (n := 21) 0 (dkX12_term (i := 10) rfl) rfl rfl ?_
      refine qr_cvu (n := 24) 0 [] (dkX12_term (i := 11) rfl) rfl kvX12_297 rfl rfl (Nat.le_of_ble_eq_true rfl) rfl rfl lmO rfl (wX12_expression G S_1) (fun S_5 => ?_)
      exact hK_1 S_5
def tbX12_tellLaw : List (Nat × Instr × Nat) := [(0, .aload_n 0, 1), (1, .iconst 5, 1), (2, .invokevirtual 288, 3), (5, .aload_n 0, 1), (6, .getfield 251, 3), (9, .istore_n 2, 1), (10, .iconst 0, 1), (11, .istore_n 3, 1), (12, .aload_n 0, 1), (13, .getfield 212, 3), (16, .ifCond .ne 113, 3), (19, .aload_n 0, 1), (20, .bipush 30, 2), (22, .invokevirtual 230, 3), (25, .ifCond .eq 104, 3), (28, .iload_n 3, 1), (29, .iconst 4, 1), (30, .if_icmp .ne 8, 3), (33, .aload_n 0, 1), (34, .iconst 2, 1), (35, .invokevirtual 227, 3), (38, .aload_n 0, 1), (39, .getfield 212, 3), (42, .ifCond .le 4, 3), (45, .return_, 1), (46, .iinc 3 1, 3), (49, .aload_n 0, 1), (50, .invokevirtual 233, 3), (53, .aload_n 0, 1), (54, .getfield 95, 3), (57, .aload_n 0, 1), (58, .getfield 251, 3), (61, .iconst 1, 1), (62, .bastore, 1), (63, .aload_n 0, 1), (64, .getfield 98, 3), (67, .aload_n 0, 1), (68, .getfield 251, 3), (71, .aload_n 0, 1), (72, .getfield 254, 3), (75, .iastore, 1), (76, .aload_n 0, 1), (77, .invokevirtual 297, 3), (80, .aload_n 0, 1), (81, .bipush 13, 2), (83, .invokevirtual 288, 3), (86, .aload_n 0, 1), (87, .getfield 101, 3), (90, .aload_n 0, 1), (91, .getfield 251, 3), (94, .aload_n 0, 1), (95, .getfield 254, 3), (98, .iastore, 1), (99, .aload_n 0, 1), (100, .getfield 212, 3), (103, .ifCond .ne 7, 3), (106, .aload_n 0, 1), (107, .invokevirtual 297, 3), (110, .aload_n 0, 1), (111, .bipush 31, 2), (113, .invokevirtual 288, 3), (116, .aload_n 0, 1), (117, .invokevirtual 300, 3), (120, .aload_n 0, 1), (121, .bipush 32, 2), (123, .invokevirtual 288, 3), (126, .goto (-114), 3), (129, .aload_n 0, 1), (130, .getfield 95, 3), (133, .aload_n 0, 1), (134, .getfield 251, 3), (137, .iconst 0, 1), (138, .bastore, 1), (139, .aload_n 0, 1), (140, .invokevirtual 300, 3), (143, .aload_n 0, 1), (144, .iconst 4, 1), (145, .invokevirtual 288, 3), (148, .aload_n 0, 1), (149, .getfield 212, 3), (152, .ifCond .le 4, 3), (155, .return_, 1), (156, .aload_n 0, 1), (157, .getfield 89, 3), (160, .iconst 3, 1), (161, .aload_n 0, 1), (162, .getfield 245, 3), (165, .imul, 1), (166, .iload_n 1, 1), (167, .iadd, 1), (168, .iload_n 2, 1), (169, .iastore, 1), (170, .aload_n 0, 1), (171, .getfield 92, 3), (174, .iconst 3, 1), (175, .aload_n 0, 1), (176, .getfield 245, 3), (179, .imul, 1), (180, .iload_n 1, 1), (181, .iadd, 1), (182, .aload_n 0, 1), (183, .getfield 251, 3), (186, .iastore, 1), (187, .return_, 1)]
set_option maxRecDepth 20000 in
theorem daX12_tellLaw : ∀ x ∈ tbX12_tellLaw, decode cX12_tellLaw x.1 = .ok x.2 := by decide +kernel
theorem dkX12_tellLaw {i pc n : Nat} {ins : Instr} (h : tbX12_tellLaw[i]? = some (pc, ins, n)) : decode cX12_tellLaw pc = .ok (ins, n) := daX12_tellLaw (pc, ins, n) (List.mem_of_getElem? h)
def fX12_tellLaw (S0 : qv_St) (x1 : Int32) : Option qv_St :=
  (fX12_must S0 5).bind fun S_1 =>
  qv_b ((S_1.1 0 39) : Int32) fun x2_1 =>
  qv_j (fun (S_2 : qv_St) =>
    qv_ck (S_2.1 0 39) 260 <| qv_b (qv_si S_2 26 (Int32.toNatClampNeg (S_2.1 0 39)) (vp_nar .boolean 0)) fun S_3 =>
    (fX12_term S_3).bind fun S_4 =>
    (fX12_must S_4 4).bind fun S_5 =>
    if (S_5.1 0 13) ≤ 0 then
      qv_ck ((3 * (S_5.1 0 19)) + x1) 6 <| qv_b (qv_si S_5 24 (Int32.toNatClampNeg ((3 * (S_5.1 0 19)) + x1)) x2_1) fun S_6 =>
      qv_ck ((3 * (S_6.1 0 19)) + x1) 6 <| qv_b (qv_si S_6 25 (Int32.toNatClampNeg ((3 * (S_6.1 0 19)) + x1)) (S_6.1 0 39)) fun S_7 =>
      some S_7
    else
      some S_5) fun K_1 =>
  qv_lp2 qv_N (fun self_1 (S_8 : qv_St) (x3_1 : Int32) =>
    if (S_8.1 0 13) = 0 then
      (fX12_is S_8 30).bind fun r_1 =>
      if r_1 = 0 then
        K_1 S_8
      else
        qv_j (fun (S_9 : qv_St) =>
          if (S_9.1 0 13) ≤ 0 then
            (fX12_goesOn S_9).bind fun S_10 =>
            qv_ck (S_10.1 0 39) 260 <| qv_b (qv_si S_10 26 (Int32.toNatClampNeg (S_10.1 0 39)) (vp_nar .boolean 1)) fun S_11 =>
            qv_ck (S_11.1 0 39) 260 <| qv_b (qv_si S_11 27 (Int32.toNatClampNeg (S_11.1 0 39)) (S_11.1 0 45)) fun S_12 =>
            (fX12_expression S_12).bind fun S_13 =>
            (fX12_must S_13 13).bind fun S_14 =>
            qv_ck (S_14.1 0 39) 260 <| qv_b (qv_si S_14 28 (Int32.toNatClampNeg (S_14.1 0 39)) (S_14.1 0 45)) fun S_15 =>
            qv_j (fun (S_16 : qv_St) =>
              (fX12_must S_16 31).bind fun S_17 =>
              (fX12_term S_17).bind fun S_18 =>
              (fX12_must S_18 32).bind fun S_19 =>
              self_1 S_19 (x3_1 + 1)) fun K_3 =>
            if (S_15.1 0 13) = 0 then
              (fX12_expression S_15).bind fun S_20 =>
              K_3 S_20
            else
              K_3 S_15
          else
            some S_9) fun K_2 =>
        if x3_1 = 4 then
          (fX12_fail S_8 2).bind fun S_21 =>
          K_2 S_21
        else
          K_2 S_8
    else
      K_1 S_8) S_1 0
set_option maxRecDepth 20000 in
set_option maxHeartbeats 4000000 in
theorem wX12_tellLaw (G : qv_GT) (S0 : qv_St) (x1 : Int32) : ∀ r, fX12_tellLaw S0 x1 = some r → Cn G Lm yX12_tellLaw cX12_tellLaw 4 none 6 [.ref (G.2.2.1 0), .int x1] S0 (qe_u r) := by
  refine cn_of (own := RX12) (emb := qe_u) (lv := [(0, .ref (G.2.2.1 0)), (1, .int x1)]) rfl rfl (Nat.le_of_ble_eq_true rfl) rfl (fun X => ?_)
  unfold fX12_tellLaw
  refine qr_aload_n (n := 1) 0 (dkX12_tellLaw (i := 0) rfl) rfl rfl ?_
  refine qr_iconst (n := 2) 5 (dkX12_tellLaw (i := 1) rfl) rfl (by decide) ?_
  refine qr_cvu (n := 5) 0 [.int 5] (dkX12_tellLaw (i := 2) rfl) rfl kvX12_288 rfl rfl (Nat.le_of_ble_eq_true rfl) rfl rfl lmO rfl (wX12_must G S0 5) (fun S_1 => ?_)
  refine qr_aload_n (n := 6) 0 (dkX12_tellLaw (i := 3) rfl) rfl rfl ?_
  refine qr_geti (n := 9) 0 39 (dkX12_tellLaw (i := 4) rfl) rfl lmO rfl gnX12 (Nat.le_of_ble_eq_true rfl) kfX12_251 rfl ?_
  refine qr_b (α := Int32) (S_1.1 0 39) (lvf := fun _ => [(0, .ref (G.2.2.1 0)), (1, .int x1)]) (stf := fun z => .int z :: []) (Sf := fun _ => S_1) (fun x2_1 => ?_)
  refine qr_istore_n (n := 10) (lv2 := [(0, .ref (G.2.2.1 0)), (1, .int x1), (2, .int x2_1)]) [1, 2, 0] (dkX12_tellLaw (i := 5) rfl) rfl rfl (by decide) rfl ?_
  refine qr_iconst (n := 11) 0 (dkX12_tellLaw (i := 6) rfl) rfl (by decide) ?_
  refine qr_istore_n (n := 12) (lv2 := [(0, .ref (G.2.2.1 0)), (1, .int x1), (2, .int x2_1), (3, .int 0)]) [1, 2, 3, 0] (dkX12_tellLaw (i := 7) rfl) rfl rfl (by decide) rfl ?_
  refine qr_j (fun K_1 : qv_St → Option qv_St => ∀ (S_2 : qv_St), VV G Lm X RX12 cX12_tellLaw 4 none 6 qe_u 129 [(0, .ref (G.2.2.1 0)), (1, .int x1), (2, .int x2_1)] [] S_2 (K_1 S_2)) (fun S_2 => ?_) (fun K_1 hK_1 => ?_)
  · refine qr_aload_n (n := 130) 0 (dkX12_tellLaw (i := 67) rfl) rfl rfl ?_
    refine qr_geta (n := 133) 0 40 26 (dkX12_tellLaw (i := 68) rfl) rfl lmO rfl gnX12 (Nat.le_of_ble_eq_true rfl) kfX12_95 rfl ?_
    refine qr_aload_n (n := 134) 0 (dkX12_tellLaw (i := 69) rfl) rfl rfl ?_
    refine qr_geti (n := 137) 0 39 (dkX12_tellLaw (i := 70) rfl) rfl lmO rfl gnX12 (Nat.le_of_ble_eq_true rfl) kfX12_251 rfl ?_
    refine qr_iconst (n := 138) 0 (dkX12_tellLaw (i := 71) rfl) rfl (by decide) ?_
    refine qr_zast (n := 139) 26 260 (dkX12_tellLaw (i := 72) rfl) rfl lmA_26 (fun S_3 => ?_)
    refine qr_aload_n (n := 140) 0 (dkX12_tellLaw (i := 73) rfl) rfl rfl ?_
    refine qr_cvu (n := 143) 0 [] (dkX12_tellLaw (i := 74) rfl) rfl kvX12_300 rfl rfl (Nat.le_of_ble_eq_true rfl) rfl rfl lmO rfl (wX12_term G S_3) (fun S_4 => ?_)
    refine qr_aload_n (n := 144) 0 (dkX12_tellLaw (i := 75) rfl) rfl rfl ?_
    refine qr_iconst (n := 145) 4 (dkX12_tellLaw (i := 76) rfl) rfl (by decide) ?_
    refine qr_cvu (n := 148) 0 [.int 4] (dkX12_tellLaw (i := 77) rfl) rfl kvX12_288 rfl rfl (Nat.le_of_ble_eq_true rfl) rfl rfl lmO rfl (wX12_must G S_4 4) (fun S_5 => ?_)
    refine qr_aload_n (n := 149) 0 (dkX12_tellLaw (i := 78) rfl) rfl rfl ?_
    refine qr_geti (n := 152) 0 13 (dkX12_tellLaw (i := 79) rfl) rfl lmO rfl gnX12 (Nat.le_of_ble_eq_true rfl) kfX12_212 rfl ?_
    refine qr_if_le (t := 156) (n := 155) (dkX12_tellLaw (i := 80) rfl) (by decide) rfl ?_ ?_
    · refine qr_aload_n (n := 157) 0 (dkX12_tellLaw (i := 82) rfl) rfl rfl ?_
      refine qr_geta (n := 160) 0 37 24 (dkX12_tellLaw (i := 83) rfl) rfl lmO rfl gnX12 (Nat.le_of_ble_eq_true rfl) kfX12_89 rfl ?_
      refine qr_iconst (n := 161) 3 (dkX12_tellLaw (i := 84) rfl) rfl (by decide) ?_
      refine qr_aload_n (n := 162) 0 (dkX12_tellLaw (i := 85) rfl) rfl rfl ?_
      refine qr_geti (n := 165) 0 19 (dkX12_tellLaw (i := 86) rfl) rfl lmO rfl gnX12 (Nat.le_of_ble_eq_true rfl) kfX12_245 rfl ?_
      refine qr_imul (n := 166) (dkX12_tellLaw (i := 87) rfl) rfl ?_
      refine qr_iload_n (n := 167) 1 (dkX12_tellLaw (i := 88) rfl) rfl rfl ?_
      refine qr_iadd (n := 168) (dkX12_tellLaw (i := 89) rfl) rfl ?_
      refine qr_iload_n (n := 169) 2 (dkX12_tellLaw (i := 90) rfl) rfl rfl ?_
      refine qr_iast (n := 170) 24 6 (dkX12_tellLaw (i := 91) rfl) rfl lmA_24 (fun S_6 => ?_)
      refine qr_aload_n (n := 171) 0 (dkX12_tellLaw (i := 92) rfl) rfl rfl ?_
      refine qr_geta (n := 174) 0 38 25 (dkX12_tellLaw (i := 93) rfl) rfl lmO rfl gnX12 (Nat.le_of_ble_eq_true rfl) kfX12_92 rfl ?_
      refine qr_iconst (n := 175) 3 (dkX12_tellLaw (i := 94) rfl) rfl (by decide) ?_
      refine qr_aload_n (n := 176) 0 (dkX12_tellLaw (i := 95) rfl) rfl rfl ?_
      refine qr_geti (n := 179) 0 19 (dkX12_tellLaw (i := 96) rfl) rfl lmO rfl gnX12 (Nat.le_of_ble_eq_true rfl) kfX12_245 rfl ?_
      refine qr_imul (n := 180) (dkX12_tellLaw (i := 97) rfl) rfl ?_
      refine qr_iload_n (n := 181) 1 (dkX12_tellLaw (i := 98) rfl) rfl rfl ?_
      refine qr_iadd (n := 182) (dkX12_tellLaw (i := 99) rfl) rfl ?_
      refine qr_aload_n (n := 183) 0 (dkX12_tellLaw (i := 100) rfl) rfl rfl ?_
      refine qr_geti (n := 186) 0 39 (dkX12_tellLaw (i := 101) rfl) rfl lmO rfl gnX12 (Nat.le_of_ble_eq_true rfl) kfX12_251 rfl ?_
      refine qr_iast (n := 187) 25 6 (dkX12_tellLaw (i := 102) rfl) rfl lmA_25 (fun S_7 => ?_)
      exact qr_vret (dkX12_tellLaw (i := 103) rfl) rfl rfl
    · exact qr_vret (dkX12_tellLaw (i := 81) rfl) rfl rfl
  · refine qr_lp2 (fun (S_8 : qv_St) (x3_1 : Int32) => [(0, .ref (G.2.2.1 0)), (1, .int x1), (2, .int x2_1), (3, .int x3_1)]) (fun (S_8 : qv_St) (x3_1 : Int32) => S_8) (fun self_1 hself_1 S_8 x3_1 => ?_) qv_N S_1 0
    refine qr_aload_n (n := 13) 0 (dkX12_tellLaw (i := 8) rfl) rfl rfl ?_
    refine qr_geti (n := 16) 0 13 (dkX12_tellLaw (i := 9) rfl) rfl lmO rfl gnX12 (Nat.le_of_ble_eq_true rfl) kfX12_212 rfl ?_
    refine qr_if_ne (t := 129) (n := 19) (dkX12_tellLaw (i := 10) rfl) (by decide) rfl ?_ ?_
    · refine qr_sub [0, 1, 2] rfl ?_
      exact hK_1 S_8
    · refine qr_aload_n (n := 20) 0 (dkX12_tellLaw (i := 11) rfl) rfl rfl ?_
      refine qr_bipush (n := 22) 30 (dkX12_tellLaw (i := 12) rfl) rfl (by decide) ?_
      refine qr_cvi (n := 25) 0 [.int 30] (dkX12_tellLaw (i := 13) rfl) rfl kvX12_230 rfl rfl (Nat.le_of_ble_eq_true rfl) rfl rfl lmO rfl (wX12_is G S_8 30) (fun r_1 => ?_)
      refine qr_if_eq (t := 129) (n := 28) (dkX12_tellLaw (i := 14) rfl) (by decide) rfl ?_ ?_
      · refine qr_sub [0, 1, 2] rfl ?_
        exact hK_1 S_8
      · refine qr_iload_n (n := 29) 3 (dkX12_tellLaw (i := 15) rfl) rfl rfl ?_
        refine qr_iconst (n := 30) 4 (dkX12_tellLaw (i := 16) rfl) rfl (by decide) ?_
        refine qr_j (fun K_2 : qv_St → Option qv_St => ∀ (S_9 : qv_St), VV G Lm X RX12 cX12_tellLaw 4 none 6 qe_u 38 [(0, .ref (G.2.2.1 0)), (1, .int x1), (2, .int x2_1), (3, .int x3_1)] [] S_9 (K_2 S_9)) (fun S_9 => ?_) (fun K_2 hK_2 => ?_)
        · refine qr_aload_n (n := 39) 0 (dkX12_tellLaw (i := 21) rfl) rfl rfl ?_
          refine qr_geti (n := 42) 0 13 (dkX12_tellLaw (i := 22) rfl) rfl lmO rfl gnX12 (Nat.le_of_ble_eq_true rfl) kfX12_212 rfl ?_
          refine qr_if_le (t := 46) (n := 45) (dkX12_tellLaw (i := 23) rfl) (by decide) rfl ?_ ?_
          · refine qr_iinc (n := 49) (v := 1) (lv2 := [(0, .ref (G.2.2.1 0)), (1, .int x1), (2, .int x2_1), (3, .int (x3_1 + 1))]) 3 [1, 2, 3, 0] (dkX12_tellLaw (i := 25) rfl) rfl rfl (by decide) (by decide) rfl ?_
            refine qr_aload_n (n := 50) 0 (dkX12_tellLaw (i := 26) rfl) rfl rfl ?_
            refine qr_cvu (n := 53) 0 [] (dkX12_tellLaw (i := 27) rfl) rfl kvX12_233 rfl rfl (Nat.le_of_ble_eq_true rfl) rfl rfl lmO rfl (wX12_goesOn G S_9) (fun S_10 => ?_)
            refine qr_aload_n (n := 54) 0 (dkX12_tellLaw (i := 28) rfl) rfl rfl ?_
            refine qr_geta (n := 57) 0 40 26 (dkX12_tellLaw (i := 29) rfl) rfl lmO rfl gnX12 (Nat.le_of_ble_eq_true rfl) kfX12_95 rfl ?_
            refine qr_aload_n (n := 58) 0 (dkX12_tellLaw (i := 30) rfl) rfl rfl ?_
            refine qr_geti (n := 61) 0 39 (dkX12_tellLaw (i := 31) rfl) rfl lmO rfl gnX12 (Nat.le_of_ble_eq_true rfl) kfX12_251 rfl ?_
            refine qr_iconst (n := 62) 1 (dkX12_tellLaw (i := 32) rfl) rfl (by decide) ?_
            refine qr_zast (n := 63) 26 260 (dkX12_tellLaw (i := 33) rfl) rfl lmA_26 (fun S_11 => ?_)
            refine qr_aload_n (n := 64) 0 (dkX12_tellLaw (i := 34) rfl) rfl rfl ?_
            refine qr_geta (n := 67) 0 41 27 (dkX12_tellLaw (i := 35) rfl) rfl lmO rfl gnX12 (Nat.le_of_ble_eq_true rfl) kfX12_98 rfl ?_
            refine qr_aload_n (n := 68) 0 (dkX12_tellLaw (i := 36) rfl) rfl rfl ?_
            refine qr_geti (n := 71) 0 39 (dkX12_tellLaw (i := 37) rfl) rfl lmO rfl gnX12 (Nat.le_of_ble_eq_true rfl) kfX12_251 rfl ?_
            refine qr_aload_n (n := 72) 0 (dkX12_tellLaw (i := 38) rfl) rfl rfl ?_
            refine qr_geti (n := 75) 0 45 (dkX12_tellLaw (i := 39) rfl) rfl lmO rfl gnX12 (Nat.le_of_ble_eq_true rfl) kfX12_254 rfl ?_
            refine qr_iast (n := 76) 27 260 (dkX12_tellLaw (i := 40) rfl) rfl lmA_27 (fun S_12 => ?_)
            refine qr_aload_n (n := 77) 0 (dkX12_tellLaw (i := 41) rfl) rfl rfl ?_
            refine qr_cvu (n := 80) 0 [] (dkX12_tellLaw (i := 42) rfl) rfl kvX12_297 rfl rfl (Nat.le_of_ble_eq_true rfl) rfl rfl lmO rfl (wX12_expression G S_12) (fun S_13 => ?_)
            refine qr_aload_n (n := 81) 0 (dkX12_tellLaw (i := 43) rfl) rfl rfl ?_
            refine qr_bipush (n := 83) 13 (dkX12_tellLaw (i := 44) rfl) rfl (by decide) ?_
            refine qr_cvu (n := 86) 0 [.int 13] (dkX12_tellLaw (i := 45) rfl) rfl kvX12_288 rfl rfl (Nat.le_of_ble_eq_true rfl) rfl rfl lmO rfl (wX12_must G S_13 13) (fun S_14 => ?_)
            refine qr_aload_n (n := 87) 0 (dkX12_tellLaw (i := 46) rfl) rfl rfl ?_
            refine qr_geta (n := 90) 0 42 28 (dkX12_tellLaw (i := 47) rfl) rfl lmO rfl gnX12 (Nat.le_of_ble_eq_true rfl) kfX12_101 rfl ?_
            refine qr_aload_n (n := 91) 0 (dkX12_tellLaw (i := 48) rfl) rfl rfl ?_
            refine qr_geti (n := 94) 0 39 (dkX12_tellLaw (i := 49) rfl) rfl lmO rfl gnX12 (Nat.le_of_ble_eq_true rfl) kfX12_251 rfl ?_
            refine qr_aload_n (n := 95) 0 (dkX12_tellLaw (i := 50) rfl) rfl rfl ?_
            refine qr_geti (n := 98) 0 45 (dkX12_tellLaw (i := 51) rfl) rfl lmO rfl gnX12 (Nat.le_of_ble_eq_true rfl) kfX12_254 rfl ?_
            refine qr_iast (n := 99) 28 260 (dkX12_tellLaw (i := 52) rfl) rfl lmA_28 (fun S_15 => ?_)
            refine qr_aload_n (n := 100) 0 (dkX12_tellLaw (i := 53) rfl) rfl rfl ?_
            refine qr_geti (n := 103) 0 13 (dkX12_tellLaw (i := 54) rfl) rfl lmO rfl gnX12 (Nat.le_of_ble_eq_true rfl) kfX12_212 rfl ?_
            refine qr_j (fun K_3 : qv_St → Option qv_St => ∀ (S_16 : qv_St), VV G Lm X RX12 cX12_tellLaw 4 none 6 qe_u 110 [(0, .ref (G.2.2.1 0)), (1, .int x1), (2, .int x2_1), (3, .int (x3_1 + 1))] [] S_16 (K_3 S_16)) (fun S_16 => ?_) (fun K_3 hK_3 => ?_)
            · refine qr_aload_n (n := 111) 0 (dkX12_tellLaw (i := 58) rfl) rfl rfl ?_
              refine qr_bipush (n := 113) 31 (dkX12_tellLaw (i := 59) rfl) rfl (by decide) ?_
              refine qr_cvu (n := 116) 0 [.int 31] (dkX12_tellLaw (i := 60) rfl) rfl kvX12_288 rfl rfl (Nat.le_of_ble_eq_true rfl) rfl rfl lmO rfl (wX12_must G S_16 31) (fun S_17 => ?_)
              refine qr_aload_n (n := 117) 0 (dkX12_tellLaw (i := 61) rfl) rfl rfl ?_
              refine qr_cvu (n := 120) 0 [] (dkX12_tellLaw (i := 62) rfl) rfl kvX12_300 rfl rfl (Nat.le_of_ble_eq_true rfl) rfl rfl lmO rfl (wX12_term G S_17) (fun S_18 => ?_)
              refine qr_aload_n (n := 121) 0 (dkX12_tellLaw (i := 63) rfl) rfl rfl ?_
              refine qr_bipush (n := 123) 32 (dkX12_tellLaw (i := 64) rfl) rfl (by decide) ?_
              refine qr_cvu (n := 126) 0 [.int 32] (dkX12_tellLaw (i := 65) rfl) rfl kvX12_288 rfl rfl (Nat.le_of_ble_eq_true rfl) rfl rfl lmO rfl (wX12_must G S_18 32) (fun S_19 => ?_)
              refine qr_goto (n := 12) (dkX12_tellLaw (i := 66) rfl) (by decide) ?_
              exact hself_1 S_19 (x3_1 + 1)
            · refine qr_if_ne (t := 110) (n := 106) (dkX12_tellLaw (i := 55) rfl) (by decide) rfl ?_ ?_
              · exact hK_3 S_15
              · refine qr_aload_n (n := 107) 0 (dkX12_tellLaw (i := 56) rfl) rfl rfl ?_
                refine qr_cvu (n := 110) 0 [] (dkX12_tellLaw (i := 57) rfl) rfl kvX12_297 rfl rfl (Nat.le_of_ble_eq_true rfl) rfl rfl lmO rfl (wX12_expression G S_15) (fun S_20 => ?_)
                exact hK_3 S_20
          · exact qr_vret (dkX12_tellLaw (i := 24) rfl) rfl rfl
        · refine qr_icmp_ne (t := 38) (n := 33) (dkX12_tellLaw (i := 17) rfl) (by decide) rfl ?_ ?_
          · exact hK_2 S_8
          · refine qr_aload_n (n := 34) 0 (dkX12_tellLaw (i := 18) rfl) rfl rfl ?_
            refine qr_iconst (n := 35) 2 (dkX12_tellLaw (i := 19) rfl) rfl (by decide) ?_
            refine qr_cvu (n := 38) 0 [.int 2] (dkX12_tellLaw (i := 20) rfl) rfl kvX12_227 rfl rfl (Nat.le_of_ble_eq_true rfl) rfl rfl lmO rfl (wX12_fail G S_8 2) (fun S_21 => ?_)
            exact hK_2 S_21
def tbX12_tellOne : List (Nat × Instr × Nat) := [(0, .aload_n 0, 1), (1, .getfield 20, 3), (4, .aload_n 0, 1), (5, .getfield 215, 3), (8, .iaload, 1), (9, .tableswitch 290 20 29 #[55, 55, 92, 175, 290, 290, 290, 204, 232, 261], 55), (64, .aload_n 0, 1), (65, .bipush 20, 2), (67, .invokevirtual 230, 3), (70, .istore_n 1, 1), (71, .aload_n 0, 1), (72, .aload_n 0, 1), (73, .getfield 43, 3), (76, .aload_n 0, 1), (77, .getfield 245, 3), (80, .iaload, 1), (81, .bipush 8, 2), (83, .invokevirtual 266, 3), (86, .aload_n 0, 1), (87, .getfield 212, 3), (90, .ifCond .ne 262, 3), (93, .aload_n 0, 1), (94, .iload_n 1, 1), (95, .invokevirtual 270, 3), (98, .goto 254, 3), (101, .aload_n 0, 1), (102, .aload_n 0, 1), (103, .getfield 65, 3), (106, .aload_n 0, 1), (107, .getfield 245, 3), (110, .iaload, 1), (111, .iconst 4, 1), (112, .invokevirtual 266, 3), (115, .aload_n 0, 1), (116, .getfield 212, 3), (119, .ifCond .le 4, 3), (122, .return_, 1), (123, .aload_n 0, 1), (124, .invokevirtual 274, 3), (127, .istore_n 1, 1), (128, .aload_n 0, 1), (129, .getfield 68, 3), (132, .iconst 4, 1), (133, .aload_n 0, 1), (134, .getfield 245, 3), (137, .imul, 1), (138, .aload_n 0, 1), (139, .getfield 65, 3), (142, .aload_n 0, 1), (143, .getfield 245, 3), (146, .iaload, 1), (147, .iadd, 1), (148, .aload_n 0, 1), (149, .iconst 0, 1), (150, .bipush 9, 2), (152, .invokevirtual 278, 3), (155, .iastore, 1), (156, .aload_n 0, 1), (157, .iload_n 1, 1), (158, .invokevirtual 282, 3), (161, .aload_n 0, 1), (162, .getfield 212, 3), (165, .ifCond .ne 187, 3), (168, .aload_n 0, 1), (169, .getfield 65, 3), (172, .aload_n 0, 1), (173, .getfield 245, 3), (176, .dup2, 1), (177, .iaload, 1), (178, .iconst 1, 1), (179, .iadd, 1), (180, .iastore, 1), (181, .goto 171, 3), (184, .aload_n 0, 1), (185, .aload_n 0, 1), (186, .getfield 71, 3), (189, .aload_n 0, 1), (190, .getfield 245, 3), (193, .iaload, 1), (194, .bipush 6, 2), (196, .invokevirtual 266, 3), (199, .aload_n 0, 1), (200, .getfield 212, 3), (203, .ifCond .ne 149, 3), (206, .aload_n 0, 1), (207, .invokevirtual 285, 3), (210, .goto 142, 3), (213, .aload_n 0, 1), (214, .invokevirtual 233, 3), (217, .aload_n 0, 1), (218, .getfield 80, 3), (221, .aload_n 0, 1), (222, .getfield 245, 3), (225, .aload_n 0, 1), (226, .iconst 0, 1), (227, .bipush 99, 2), (229, .invokevirtual 278, 3), (232, .iastore, 1), (233, .aload_n 0, 1), (234, .iconst 4, 1), (235, .invokevirtual 288, 3), (238, .goto 114, 3), (241, .aload_n 0, 1), (242, .invokevirtual 233, 3), (245, .aload_n 0, 1), (246, .getfield 83, 3), (249, .aload_n 0, 1), (250, .getfield 245, 3), (253, .aload_n 0, 1), (254, .iconst 0, 1), (255, .sipush 9999, 3), (258, .invokevirtual 278, 3), (261, .iastore, 1), (262, .aload_n 0, 1), (263, .iconst 4, 1), (264, .invokevirtual 288, 3), (267, .goto 85, 3), (270, .aload_n 0, 1), (271, .invokevirtual 233, 3), (274, .aload_n 0, 1), (275, .getfield 86, 3), (278, .aload_n 0, 1), (279, .getfield 245, 3), (282, .aload_n 0, 1), (283, .iconst 0, 1), (284, .sipush 9999, 3), (287, .invokevirtual 278, 3), (290, .iastore, 1), (291, .aload_n 0, 1), (292, .iconst 4, 1), (293, .invokevirtual 288, 3), (296, .goto 56, 3), (299, .aload_n 0, 1), (300, .getfield 20, 3), (303, .aload_n 0, 1), (304, .getfield 215, 3), (307, .iaload, 1), (308, .bipush 24, 2), (310, .isub, 1), (311, .istore_n 1, 1), (312, .iload_n 1, 1), (313, .ifCond .lt 17, 3), (316, .aload_n 0, 1), (317, .getfield 20, 3), (320, .aload_n 0, 1), (321, .getfield 215, 3), (324, .iaload, 1), (325, .bipush 26, 2), (327, .if_icmp .le 8, 3), (330, .aload_n 0, 1), (331, .iconst 1, 1), (332, .invokevirtual 227, 3), (335, .aload_n 0, 1), (336, .getfield 212, 3), (339, .ifCond .le 4, 3), (342, .return_, 1), (343, .aload_n 0, 1), (344, .invokevirtual 233, 3), (347, .aload_n 0, 1), (348, .iload_n 1, 1), (349, .invokevirtual 291, 3), (352, .return_, 1)]
set_option maxRecDepth 20000 in
theorem daX12_tellOne : ∀ x ∈ tbX12_tellOne, decode cX12_tellOne x.1 = .ok x.2 := by decide +kernel
theorem dkX12_tellOne {i pc n : Nat} {ins : Instr} (h : tbX12_tellOne[i]? = some (pc, ins, n)) : decode cX12_tellOne pc = .ok (ins, n) := daX12_tellOne (pc, ins, n) (List.mem_of_getElem? h)
def fX12_tellOne (S0 : qv_St) : Option qv_St :=
  qv_ck (S0.1 0 11) 403 <|
  qv_sw (S0.1 3 (Int32.toNatClampNeg (S0.1 0 11))) 20 29 [
    (fX12_is S0 20).bind fun r_1 =>
    qv_ck (S0.1 0 19) 2 <|
    (fX12_roomFor S0 (S0.1 9 (Int32.toNatClampNeg (S0.1 0 19))) 8).bind fun S_5 =>
    if (S_5.1 0 13) = 0 then
      (fX12_tellNoise S_5 r_1).bind fun S_6 =>
      some S_6
    else
      some S_5,
    (fX12_is S0 20).bind fun r_2 =>
    qv_ck (S0.1 0 19) 2 <|
    (fX12_roomFor S0 (S0.1 9 (Int32.toNatClampNeg (S0.1 0 19))) 8).bind fun S_7 =>
    if (S_7.1 0 13) = 0 then
      (fX12_tellNoise S_7 r_2).bind fun S_8 =>
      some S_8
    else
      some S_7,
    qv_ck (S0.1 0 19) 2 <|
    (fX12_roomFor S0 (S0.1 16 (Int32.toNatClampNeg (S0.1 0 19))) 4).bind fun S_9 =>
    if (S_9.1 0 13) ≤ 0 then
      qv_cm (fX12_named S_9) fun S_10 r_3 =>
      qv_ck (S_10.1 0 19) 2 <|
      qv_cm (fX12_bounded S_10 0 9) fun S_11 r_4 =>
      qv_ck ((4 * (S_10.1 0 19)) + (S_10.1 16 (Int32.toNatClampNeg (S_10.1 0 19)))) 8 <| qv_b (qv_si S_11 17 (Int32.toNatClampNeg ((4 * (S_10.1 0 19)) + (S_10.1 16 (Int32.toNatClampNeg (S_10.1 0 19))))) r_4) fun S_12 =>
      (fX12_ends S_12 r_3).bind fun S_13 =>
      if (S_13.1 0 13) = 0 then
        qv_ck (S_13.1 0 19) 2 <|
        qv_ck (S_13.1 0 19) 2 <| qv_b (qv_si S_13 16 (Int32.toNatClampNeg (S_13.1 0 19)) ((S_13.1 16 (Int32.toNatClampNeg (S_13.1 0 19))) + 1)) fun S_14 =>
        some S_14
      else
        some S_13
    else
      some S_9,
    qv_ck (S0.1 0 19) 2 <|
    (fX12_roomFor S0 (S0.1 18 (Int32.toNatClampNeg (S0.1 0 19))) 6).bind fun S_15 =>
    if (S_15.1 0 13) = 0 then
      (fX12_tellShot S_15).bind fun S_16 =>
      some S_16
    else
      some S_15,
    qv_ck (S0.1 0 11) 403 <|
    qv_b (((S0.1 3 (Int32.toNatClampNeg (S0.1 0 11))) - 24) : Int32) fun x1_2 =>
    qv_j (fun (S_17 : qv_St) =>
      if (S_17.1 0 13) ≤ 0 then
        (fX12_goesOn S_17).bind fun S_18 =>
        (fX12_tellLaw S_18 x1_2).bind fun S_19 =>
        some S_19
      else
        some S_17) fun K_3 =>
    qv_j (
      (fX12_fail S0 1).bind fun S_20 =>
      K_3 S_20) fun K_4 =>
    if x1_2 < 0 then
      K_4
    else
      qv_ck (S0.1 0 11) 403 <|
      if (S0.1 3 (Int32.toNatClampNeg (S0.1 0 11))) ≤ 26 then
        K_3 S0
      else
        K_4,
    qv_ck (S0.1 0 11) 403 <|
    qv_b (((S0.1 3 (Int32.toNatClampNeg (S0.1 0 11))) - 24) : Int32) fun x1_3 =>
    qv_j (fun (S_21 : qv_St) =>
      if (S_21.1 0 13) ≤ 0 then
        (fX12_goesOn S_21).bind fun S_22 =>
        (fX12_tellLaw S_22 x1_3).bind fun S_23 =>
        some S_23
      else
        some S_21) fun K_5 =>
    qv_j (
      (fX12_fail S0 1).bind fun S_24 =>
      K_5 S_24) fun K_6 =>
    if x1_3 < 0 then
      K_6
    else
      qv_ck (S0.1 0 11) 403 <|
      if (S0.1 3 (Int32.toNatClampNeg (S0.1 0 11))) ≤ 26 then
        K_5 S0
      else
        K_6,
    qv_ck (S0.1 0 11) 403 <|
    qv_b (((S0.1 3 (Int32.toNatClampNeg (S0.1 0 11))) - 24) : Int32) fun x1_4 =>
    qv_j (fun (S_25 : qv_St) =>
      if (S_25.1 0 13) ≤ 0 then
        (fX12_goesOn S_25).bind fun S_26 =>
        (fX12_tellLaw S_26 x1_4).bind fun S_27 =>
        some S_27
      else
        some S_25) fun K_7 =>
    qv_j (
      (fX12_fail S0 1).bind fun S_28 =>
      K_7 S_28) fun K_8 =>
    if x1_4 < 0 then
      K_8
    else
      qv_ck (S0.1 0 11) 403 <|
      if (S0.1 3 (Int32.toNatClampNeg (S0.1 0 11))) ≤ 26 then
        K_7 S0
      else
        K_8,
    (fX12_goesOn S0).bind fun S_29 =>
    qv_cm (fX12_bounded S_29 0 99) fun S_30 r_5 =>
    qv_ck (S_29.1 0 19) 2 <| qv_b (qv_si S_30 21 (Int32.toNatClampNeg (S_29.1 0 19)) r_5) fun S_31 =>
    (fX12_must S_31 4).bind fun S_32 =>
    some S_32,
    (fX12_goesOn S0).bind fun S_33 =>
    qv_cm (fX12_bounded S_33 0 9999) fun S_34 r_6 =>
    qv_ck (S_33.1 0 19) 2 <| qv_b (qv_si S_34 22 (Int32.toNatClampNeg (S_33.1 0 19)) r_6) fun S_35 =>
    (fX12_must S_35 4).bind fun S_36 =>
    some S_36,
    (fX12_goesOn S0).bind fun S_37 =>
    qv_cm (fX12_bounded S_37 0 9999) fun S_38 r_7 =>
    qv_ck (S_37.1 0 19) 2 <| qv_b (qv_si S_38 23 (Int32.toNatClampNeg (S_37.1 0 19)) r_7) fun S_39 =>
    (fX12_must S_39 4).bind fun S_40 =>
    some S_40] (
    qv_ck (S0.1 0 11) 403 <|
    qv_b (((S0.1 3 (Int32.toNatClampNeg (S0.1 0 11))) - 24) : Int32) fun x1_1 =>
    qv_j (fun (S_1 : qv_St) =>
      if (S_1.1 0 13) ≤ 0 then
        (fX12_goesOn S_1).bind fun S_2 =>
        (fX12_tellLaw S_2 x1_1).bind fun S_3 =>
        some S_3
      else
        some S_1) fun K_1 =>
    qv_j (
      (fX12_fail S0 1).bind fun S_4 =>
      K_1 S_4) fun K_2 =>
    if x1_1 < 0 then
      K_2
    else
      qv_ck (S0.1 0 11) 403 <|
      if (S0.1 3 (Int32.toNatClampNeg (S0.1 0 11))) ≤ 26 then
        K_1 S0
      else
        K_2)
set_option maxRecDepth 20000 in
set_option maxHeartbeats 4000000 in
theorem wX12_tellOne (G : qv_GT) (S0 : qv_St) : ∀ r, fX12_tellOne S0 = some r → Cn G Lm yX12_tellOne cX12_tellOne 2 none 7 [.ref (G.2.2.1 0)] S0 (qe_u r) := by
  refine cn_of (own := RX12) (emb := qe_u) (lv := [(0, .ref (G.2.2.1 0))]) rfl rfl (Nat.le_of_ble_eq_true rfl) rfl (fun X => ?_)
  unfold fX12_tellOne
  refine qr_aload_n (n := 1) 0 (dkX12_tellOne (i := 0) rfl) rfl rfl ?_
  refine qr_geta (n := 4) 0 5 3 (dkX12_tellOne (i := 1) rfl) rfl lmO rfl gnX12 (Nat.le_of_ble_eq_true rfl) kfX12_20 rfl ?_
  refine qr_aload_n (n := 5) 0 (dkX12_tellOne (i := 2) rfl) rfl rfl ?_
  refine qr_geti (n := 8) 0 11 (dkX12_tellOne (i := 3) rfl) rfl lmO rfl gnX12 (Nat.le_of_ble_eq_true rfl) kfX12_215 rfl ?_
  refine qr_iald (n := 9) 3 403 (dkX12_tellOne (i := 4) rfl) rfl lmA_3 ?_
  refine qr_sw (td := 299) (dkX12_tellOne (i := 5) rfl) (by decide) ?_ ⟨⟨64, by decide, ?_⟩, ⟨64, by decide, ?_⟩, ⟨101, by decide, ?_⟩, ⟨184, by decide, ?_⟩, ⟨299, by decide, ?_⟩, ⟨299, by decide, ?_⟩, ⟨299, by decide, ?_⟩, ⟨213, by decide, ?_⟩, ⟨241, by decide, ?_⟩, ⟨270, by decide, ?_⟩, trivial⟩
  · refine qr_aload_n (n := 300) 0 (dkX12_tellOne (i := 132) rfl) rfl rfl ?_
    refine qr_geta (n := 303) 0 5 3 (dkX12_tellOne (i := 133) rfl) rfl lmO rfl gnX12 (Nat.le_of_ble_eq_true rfl) kfX12_20 rfl ?_
    refine qr_aload_n (n := 304) 0 (dkX12_tellOne (i := 134) rfl) rfl rfl ?_
    refine qr_geti (n := 307) 0 11 (dkX12_tellOne (i := 135) rfl) rfl lmO rfl gnX12 (Nat.le_of_ble_eq_true rfl) kfX12_215 rfl ?_
    refine qr_iald (n := 308) 3 403 (dkX12_tellOne (i := 136) rfl) rfl lmA_3 ?_
    refine qr_bipush (n := 310) 24 (dkX12_tellOne (i := 137) rfl) rfl (by decide) ?_
    refine qr_isub (n := 311) (dkX12_tellOne (i := 138) rfl) rfl ?_
    refine qr_b (α := Int32) ((S0.1 3 (Int32.toNatClampNeg (S0.1 0 11))) - 24) (lvf := fun _ => [(0, .ref (G.2.2.1 0))]) (stf := fun z => .int z :: []) (Sf := fun _ => S0) (fun x1_1 => ?_)
    refine qr_istore_n (n := 312) (lv2 := [(0, .ref (G.2.2.1 0)), (1, .int x1_1)]) [1, 0] (dkX12_tellOne (i := 139) rfl) rfl rfl (by decide) rfl ?_
    refine qr_iload_n (n := 313) 1 (dkX12_tellOne (i := 140) rfl) rfl rfl ?_
    refine qr_j (fun K_1 : qv_St → Option qv_St => ∀ (S_1 : qv_St), VV G Lm X RX12 cX12_tellOne 2 none 7 qe_u 335 [(0, .ref (G.2.2.1 0)), (1, .int x1_1)] [] S_1 (K_1 S_1)) (fun S_1 => ?_) (fun K_1 hK_1 => ?_)
    · refine qr_aload_n (n := 336) 0 (dkX12_tellOne (i := 152) rfl) rfl rfl ?_
      refine qr_geti (n := 339) 0 13 (dkX12_tellOne (i := 153) rfl) rfl lmO rfl gnX12 (Nat.le_of_ble_eq_true rfl) kfX12_212 rfl ?_
      refine qr_if_le (t := 343) (n := 342) (dkX12_tellOne (i := 154) rfl) (by decide) rfl ?_ ?_
      · refine qr_aload_n (n := 344) 0 (dkX12_tellOne (i := 156) rfl) rfl rfl ?_
        refine qr_cvu (n := 347) 0 [] (dkX12_tellOne (i := 157) rfl) rfl kvX12_233 rfl rfl (Nat.le_of_ble_eq_true rfl) rfl rfl lmO rfl (wX12_goesOn G S_1) (fun S_2 => ?_)
        refine qr_aload_n (n := 348) 0 (dkX12_tellOne (i := 158) rfl) rfl rfl ?_
        refine qr_iload_n (n := 349) 1 (dkX12_tellOne (i := 159) rfl) rfl rfl ?_
        refine qr_cvu (n := 352) 0 [.int x1_1] (dkX12_tellOne (i := 160) rfl) rfl kvX12_291 rfl rfl (Nat.le_of_ble_eq_true rfl) rfl rfl lmO rfl (wX12_tellLaw G S_2 x1_1) (fun S_3 => ?_)
        exact qr_vret (dkX12_tellOne (i := 161) rfl) rfl rfl
      · exact qr_vret (dkX12_tellOne (i := 155) rfl) rfl rfl
    · refine qr_j (fun K_2 : Option qv_St => VV G Lm X RX12 cX12_tellOne 2 none 7 qe_u 330 [(0, .ref (G.2.2.1 0)), (1, .int x1_1)] [] S0 (K_2)) (?_) (fun K_2 hK_2 => ?_)
      · refine qr_aload_n (n := 331) 0 (dkX12_tellOne (i := 149) rfl) rfl rfl ?_
        refine qr_iconst (n := 332) 1 (dkX12_tellOne (i := 150) rfl) rfl (by decide) ?_
        refine qr_cvu (n := 335) 0 [.int 1] (dkX12_tellOne (i := 151) rfl) rfl kvX12_227 rfl rfl (Nat.le_of_ble_eq_true rfl) rfl rfl lmO rfl (wX12_fail G S0 1) (fun S_4 => ?_)
        exact hK_1 S_4
      · refine qr_if_lt (t := 330) (n := 316) (dkX12_tellOne (i := 141) rfl) (by decide) rfl ?_ ?_
        · exact hK_2
        · refine qr_aload_n (n := 317) 0 (dkX12_tellOne (i := 142) rfl) rfl rfl ?_
          refine qr_geta (n := 320) 0 5 3 (dkX12_tellOne (i := 143) rfl) rfl lmO rfl gnX12 (Nat.le_of_ble_eq_true rfl) kfX12_20 rfl ?_
          refine qr_aload_n (n := 321) 0 (dkX12_tellOne (i := 144) rfl) rfl rfl ?_
          refine qr_geti (n := 324) 0 11 (dkX12_tellOne (i := 145) rfl) rfl lmO rfl gnX12 (Nat.le_of_ble_eq_true rfl) kfX12_215 rfl ?_
          refine qr_iald (n := 325) 3 403 (dkX12_tellOne (i := 146) rfl) rfl lmA_3 ?_
          refine qr_bipush (n := 327) 26 (dkX12_tellOne (i := 147) rfl) rfl (by decide) ?_
          refine qr_icmp_le (t := 335) (n := 330) (dkX12_tellOne (i := 148) rfl) (by decide) rfl ?_ ?_
          · exact hK_1 S0
          · exact hK_2
  · refine qr_aload_n (n := 65) 0 (dkX12_tellOne (i := 6) rfl) rfl rfl ?_
    refine qr_bipush (n := 67) 20 (dkX12_tellOne (i := 7) rfl) rfl (by decide) ?_
    refine qr_cvi (n := 70) 0 [.int 20] (dkX12_tellOne (i := 8) rfl) rfl kvX12_230 rfl rfl (Nat.le_of_ble_eq_true rfl) rfl rfl lmO rfl (wX12_is G S0 20) (fun r_1 => ?_)
    refine qr_istore_n (n := 71) (lv2 := [(0, .ref (G.2.2.1 0)), (1, .int r_1)]) [1, 0] (dkX12_tellOne (i := 9) rfl) rfl rfl (by decide) rfl ?_
    refine qr_aload_n (n := 72) 0 (dkX12_tellOne (i := 10) rfl) rfl rfl ?_
    refine qr_aload_n (n := 73) 0 (dkX12_tellOne (i := 11) rfl) rfl rfl ?_
    refine qr_geta (n := 76) 0 22 9 (dkX12_tellOne (i := 12) rfl) rfl lmO rfl gnX12 (Nat.le_of_ble_eq_true rfl) kfX12_43 rfl ?_
    refine qr_aload_n (n := 77) 0 (dkX12_tellOne (i := 13) rfl) rfl rfl ?_
    refine qr_geti (n := 80) 0 19 (dkX12_tellOne (i := 14) rfl) rfl lmO rfl gnX12 (Nat.le_of_ble_eq_true rfl) kfX12_245 rfl ?_
    refine qr_iald (n := 81) 9 2 (dkX12_tellOne (i := 15) rfl) rfl lmA_9 ?_
    refine qr_bipush (n := 83) 8 (dkX12_tellOne (i := 16) rfl) rfl (by decide) ?_
    refine qr_cvu (n := 86) 0 [.int (S0.1 9 (Int32.toNatClampNeg (S0.1 0 19))), .int 8] (dkX12_tellOne (i := 17) rfl) rfl kvX12_266 rfl rfl (Nat.le_of_ble_eq_true rfl) rfl rfl lmO rfl (wX12_roomFor G S0 (S0.1 9 (Int32.toNatClampNeg (S0.1 0 19))) 8) (fun S_5 => ?_)
    refine qr_aload_n (n := 87) 0 (dkX12_tellOne (i := 18) rfl) rfl rfl ?_
    refine qr_geti (n := 90) 0 13 (dkX12_tellOne (i := 19) rfl) rfl lmO rfl gnX12 (Nat.le_of_ble_eq_true rfl) kfX12_212 rfl ?_
    refine qr_if_ne (t := 352) (n := 93) (dkX12_tellOne (i := 20) rfl) (by decide) rfl ?_ ?_
    · exact qr_vret (dkX12_tellOne (i := 161) rfl) rfl rfl
    · refine qr_aload_n (n := 94) 0 (dkX12_tellOne (i := 21) rfl) rfl rfl ?_
      refine qr_iload_n (n := 95) 1 (dkX12_tellOne (i := 22) rfl) rfl rfl ?_
      refine qr_cvu (n := 98) 0 [.int r_1] (dkX12_tellOne (i := 23) rfl) rfl kvX12_270 rfl rfl (Nat.le_of_ble_eq_true rfl) rfl rfl lmO rfl (wX12_tellNoise G S_5 r_1) (fun S_6 => ?_)
      refine qr_goto (n := 352) (dkX12_tellOne (i := 24) rfl) (by decide) ?_
      exact qr_vret (dkX12_tellOne (i := 161) rfl) rfl rfl
  · refine qr_aload_n (n := 65) 0 (dkX12_tellOne (i := 6) rfl) rfl rfl ?_
    refine qr_bipush (n := 67) 20 (dkX12_tellOne (i := 7) rfl) rfl (by decide) ?_
    refine qr_cvi (n := 70) 0 [.int 20] (dkX12_tellOne (i := 8) rfl) rfl kvX12_230 rfl rfl (Nat.le_of_ble_eq_true rfl) rfl rfl lmO rfl (wX12_is G S0 20) (fun r_2 => ?_)
    refine qr_istore_n (n := 71) (lv2 := [(0, .ref (G.2.2.1 0)), (1, .int r_2)]) [1, 0] (dkX12_tellOne (i := 9) rfl) rfl rfl (by decide) rfl ?_
    refine qr_aload_n (n := 72) 0 (dkX12_tellOne (i := 10) rfl) rfl rfl ?_
    refine qr_aload_n (n := 73) 0 (dkX12_tellOne (i := 11) rfl) rfl rfl ?_
    refine qr_geta (n := 76) 0 22 9 (dkX12_tellOne (i := 12) rfl) rfl lmO rfl gnX12 (Nat.le_of_ble_eq_true rfl) kfX12_43 rfl ?_
    refine qr_aload_n (n := 77) 0 (dkX12_tellOne (i := 13) rfl) rfl rfl ?_
    refine qr_geti (n := 80) 0 19 (dkX12_tellOne (i := 14) rfl) rfl lmO rfl gnX12 (Nat.le_of_ble_eq_true rfl) kfX12_245 rfl ?_
    refine qr_iald (n := 81) 9 2 (dkX12_tellOne (i := 15) rfl) rfl lmA_9 ?_
    refine qr_bipush (n := 83) 8 (dkX12_tellOne (i := 16) rfl) rfl (by decide) ?_
    refine qr_cvu (n := 86) 0 [.int (S0.1 9 (Int32.toNatClampNeg (S0.1 0 19))), .int 8] (dkX12_tellOne (i := 17) rfl) rfl kvX12_266 rfl rfl (Nat.le_of_ble_eq_true rfl) rfl rfl lmO rfl (wX12_roomFor G S0 (S0.1 9 (Int32.toNatClampNeg (S0.1 0 19))) 8) (fun S_7 => ?_)
    refine qr_aload_n (n := 87) 0 (dkX12_tellOne (i := 18) rfl) rfl rfl ?_
    refine qr_geti (n := 90) 0 13 (dkX12_tellOne (i := 19) rfl) rfl lmO rfl gnX12 (Nat.le_of_ble_eq_true rfl) kfX12_212 rfl ?_
    refine qr_if_ne (t := 352) (n := 93) (dkX12_tellOne (i := 20) rfl) (by decide) rfl ?_ ?_
    · exact qr_vret (dkX12_tellOne (i := 161) rfl) rfl rfl
    · refine qr_aload_n (n := 94) 0 (dkX12_tellOne (i := 21) rfl) rfl rfl ?_
      refine qr_iload_n (n := 95) 1 (dkX12_tellOne (i := 22) rfl) rfl rfl ?_
      refine qr_cvu (n := 98) 0 [.int r_2] (dkX12_tellOne (i := 23) rfl) rfl kvX12_270 rfl rfl (Nat.le_of_ble_eq_true rfl) rfl rfl lmO rfl (wX12_tellNoise G S_7 r_2) (fun S_8 => ?_)
      refine qr_goto (n := 352) (dkX12_tellOne (i := 24) rfl) (by decide) ?_
      exact qr_vret (dkX12_tellOne (i := 161) rfl) rfl rfl
  · refine qr_aload_n (n := 102) 0 (dkX12_tellOne (i := 25) rfl) rfl rfl ?_
    refine qr_aload_n (n := 103) 0 (dkX12_tellOne (i := 26) rfl) rfl rfl ?_
    refine qr_geta (n := 106) 0 29 16 (dkX12_tellOne (i := 27) rfl) rfl lmO rfl gnX12 (Nat.le_of_ble_eq_true rfl) kfX12_65 rfl ?_
    refine qr_aload_n (n := 107) 0 (dkX12_tellOne (i := 28) rfl) rfl rfl ?_
    refine qr_geti (n := 110) 0 19 (dkX12_tellOne (i := 29) rfl) rfl lmO rfl gnX12 (Nat.le_of_ble_eq_true rfl) kfX12_245 rfl ?_
    refine qr_iald (n := 111) 16 2 (dkX12_tellOne (i := 30) rfl) rfl lmA_16 ?_
    refine qr_iconst (n := 112) 4 (dkX12_tellOne (i := 31) rfl) rfl (by decide) ?_
    refine qr_cvu (n := 115) 0 [.int (S0.1 16 (Int32.toNatClampNeg (S0.1 0 19))), .int 4] (dkX12_tellOne (i := 32) rfl) rfl kvX12_266 rfl rfl (Nat.le_of_ble_eq_true rfl) rfl rfl lmO rfl (wX12_roomFor G S0 (S0.1 16 (Int32.toNatClampNeg (S0.1 0 19))) 4) (fun S_9 => ?_)
    refine qr_aload_n (n := 116) 0 (dkX12_tellOne (i := 33) rfl) rfl rfl ?_
    refine qr_geti (n := 119) 0 13 (dkX12_tellOne (i := 34) rfl) rfl lmO rfl gnX12 (Nat.le_of_ble_eq_true rfl) kfX12_212 rfl ?_
    refine qr_if_le (t := 123) (n := 122) (dkX12_tellOne (i := 35) rfl) (by decide) rfl ?_ ?_
    · refine qr_aload_n (n := 124) 0 (dkX12_tellOne (i := 37) rfl) rfl rfl ?_
      refine qr_cvm (n := 127) 0 [] (dkX12_tellOne (i := 38) rfl) rfl kvX12_274 rfl rfl (Nat.le_of_ble_eq_true rfl) rfl rfl lmO rfl (wX12_named G S_9) (fun S_10 r_3 => ?_)
      refine qr_istore_n (n := 128) (lv2 := [(0, .ref (G.2.2.1 0)), (1, .int r_3)]) [1, 0] (dkX12_tellOne (i := 39) rfl) rfl rfl (by decide) rfl ?_
      refine qr_aload_n (n := 129) 0 (dkX12_tellOne (i := 40) rfl) rfl rfl ?_
      refine qr_geta (n := 132) 0 30 17 (dkX12_tellOne (i := 41) rfl) rfl lmO rfl gnX12 (Nat.le_of_ble_eq_true rfl) kfX12_68 rfl ?_
      refine qr_iconst (n := 133) 4 (dkX12_tellOne (i := 42) rfl) rfl (by decide) ?_
      refine qr_aload_n (n := 134) 0 (dkX12_tellOne (i := 43) rfl) rfl rfl ?_
      refine qr_geti (n := 137) 0 19 (dkX12_tellOne (i := 44) rfl) rfl lmO rfl gnX12 (Nat.le_of_ble_eq_true rfl) kfX12_245 rfl ?_
      refine qr_imul (n := 138) (dkX12_tellOne (i := 45) rfl) rfl ?_
      refine qr_aload_n (n := 139) 0 (dkX12_tellOne (i := 46) rfl) rfl rfl ?_
      refine qr_geta (n := 142) 0 29 16 (dkX12_tellOne (i := 47) rfl) rfl lmO rfl gnX12 (Nat.le_of_ble_eq_true rfl) kfX12_65 rfl ?_
      refine qr_aload_n (n := 143) 0 (dkX12_tellOne (i := 48) rfl) rfl rfl ?_
      refine qr_geti (n := 146) 0 19 (dkX12_tellOne (i := 49) rfl) rfl lmO rfl gnX12 (Nat.le_of_ble_eq_true rfl) kfX12_245 rfl ?_
      refine qr_iald (n := 147) 16 2 (dkX12_tellOne (i := 50) rfl) rfl lmA_16 ?_
      refine qr_iadd (n := 148) (dkX12_tellOne (i := 51) rfl) rfl ?_
      refine qr_aload_n (n := 149) 0 (dkX12_tellOne (i := 52) rfl) rfl rfl ?_
      refine qr_iconst (n := 150) 0 (dkX12_tellOne (i := 53) rfl) rfl (by decide) ?_
      refine qr_bipush (n := 152) 9 (dkX12_tellOne (i := 54) rfl) rfl (by decide) ?_
      refine qr_cvm (n := 155) 0 [.int 0, .int 9] (dkX12_tellOne (i := 55) rfl) rfl kvX12_278 rfl rfl (Nat.le_of_ble_eq_true rfl) rfl rfl lmO rfl (wX12_bounded G S_10 0 9) (fun S_11 r_4 => ?_)
      refine qr_iast (n := 156) 17 8 (dkX12_tellOne (i := 56) rfl) rfl lmA_17 (fun S_12 => ?_)
      refine qr_aload_n (n := 157) 0 (dkX12_tellOne (i := 57) rfl) rfl rfl ?_
      refine qr_iload_n (n := 158) 1 (dkX12_tellOne (i := 58) rfl) rfl rfl ?_
      refine qr_cvu (n := 161) 0 [.int r_3] (dkX12_tellOne (i := 59) rfl) rfl kvX12_282 rfl rfl (Nat.le_of_ble_eq_true rfl) rfl rfl lmO rfl (wX12_ends G S_12 r_3) (fun S_13 => ?_)
      refine qr_aload_n (n := 162) 0 (dkX12_tellOne (i := 60) rfl) rfl rfl ?_
      refine qr_geti (n := 165) 0 13 (dkX12_tellOne (i := 61) rfl) rfl lmO rfl gnX12 (Nat.le_of_ble_eq_true rfl) kfX12_212 rfl ?_
      refine qr_if_ne (t := 352) (n := 168) (dkX12_tellOne (i := 62) rfl) (by decide) rfl ?_ ?_
      · exact qr_vret (dkX12_tellOne (i := 161) rfl) rfl rfl
      · refine qr_aload_n (n := 169) 0 (dkX12_tellOne (i := 63) rfl) rfl rfl ?_
        refine qr_geta (n := 172) 0 29 16 (dkX12_tellOne (i := 64) rfl) rfl lmO rfl gnX12 (Nat.le_of_ble_eq_true rfl) kfX12_65 rfl ?_
        refine qr_aload_n (n := 173) 0 (dkX12_tellOne (i := 65) rfl) rfl rfl ?_
        refine qr_geti (n := 176) 0 19 (dkX12_tellOne (i := 66) rfl) rfl lmO rfl gnX12 (Nat.le_of_ble_eq_true rfl) kfX12_245 rfl ?_
        refine qr_dup2 (n := 177) (dkX12_tellOne (i := 67) rfl) rfl rfl rfl ?_
        refine qr_iald (n := 178) 16 2 (dkX12_tellOne (i := 68) rfl) rfl lmA_16 ?_
        refine qr_iconst (n := 179) 1 (dkX12_tellOne (i := 69) rfl) rfl (by decide) ?_
        refine qr_iadd (n := 180) (dkX12_tellOne (i := 70) rfl) rfl ?_
        refine qr_iast (n := 181) 16 2 (dkX12_tellOne (i := 71) rfl) rfl lmA_16 (fun S_14 => ?_)
        refine qr_goto (n := 352) (dkX12_tellOne (i := 72) rfl) (by decide) ?_
        exact qr_vret (dkX12_tellOne (i := 161) rfl) rfl rfl
    · exact qr_vret (dkX12_tellOne (i := 36) rfl) rfl rfl
  · refine qr_aload_n (n := 185) 0 (dkX12_tellOne (i := 73) rfl) rfl rfl ?_
    refine qr_aload_n (n := 186) 0 (dkX12_tellOne (i := 74) rfl) rfl rfl ?_
    refine qr_geta (n := 189) 0 31 18 (dkX12_tellOne (i := 75) rfl) rfl lmO rfl gnX12 (Nat.le_of_ble_eq_true rfl) kfX12_71 rfl ?_
    refine qr_aload_n (n := 190) 0 (dkX12_tellOne (i := 76) rfl) rfl rfl ?_
    refine qr_geti (n := 193) 0 19 (dkX12_tellOne (i := 77) rfl) rfl lmO rfl gnX12 (Nat.le_of_ble_eq_true rfl) kfX12_245 rfl ?_
    refine qr_iald (n := 194) 18 2 (dkX12_tellOne (i := 78) rfl) rfl lmA_18 ?_
    refine qr_bipush (n := 196) 6 (dkX12_tellOne (i := 79) rfl) rfl (by decide) ?_
    refine qr_cvu (n := 199) 0 [.int (S0.1 18 (Int32.toNatClampNeg (S0.1 0 19))), .int 6] (dkX12_tellOne (i := 80) rfl) rfl kvX12_266 rfl rfl (Nat.le_of_ble_eq_true rfl) rfl rfl lmO rfl (wX12_roomFor G S0 (S0.1 18 (Int32.toNatClampNeg (S0.1 0 19))) 6) (fun S_15 => ?_)
    refine qr_aload_n (n := 200) 0 (dkX12_tellOne (i := 81) rfl) rfl rfl ?_
    refine qr_geti (n := 203) 0 13 (dkX12_tellOne (i := 82) rfl) rfl lmO rfl gnX12 (Nat.le_of_ble_eq_true rfl) kfX12_212 rfl ?_
    refine qr_if_ne (t := 352) (n := 206) (dkX12_tellOne (i := 83) rfl) (by decide) rfl ?_ ?_
    · exact qr_vret (dkX12_tellOne (i := 161) rfl) rfl rfl
    · refine qr_aload_n (n := 207) 0 (dkX12_tellOne (i := 84) rfl) rfl rfl ?_
      refine qr_cvu (n := 210) 0 [] (dkX12_tellOne (i := 85) rfl) rfl kvX12_285 rfl rfl (Nat.le_of_ble_eq_true rfl) rfl rfl lmO rfl (wX12_tellShot G S_15) (fun S_16 => ?_)
      refine qr_goto (n := 352) (dkX12_tellOne (i := 86) rfl) (by decide) ?_
      exact qr_vret (dkX12_tellOne (i := 161) rfl) rfl rfl
  · refine qr_aload_n (n := 300) 0 (dkX12_tellOne (i := 132) rfl) rfl rfl ?_
    refine qr_geta (n := 303) 0 5 3 (dkX12_tellOne (i := 133) rfl) rfl lmO rfl gnX12 (Nat.le_of_ble_eq_true rfl) kfX12_20 rfl ?_
    refine qr_aload_n (n := 304) 0 (dkX12_tellOne (i := 134) rfl) rfl rfl ?_
    refine qr_geti (n := 307) 0 11 (dkX12_tellOne (i := 135) rfl) rfl lmO rfl gnX12 (Nat.le_of_ble_eq_true rfl) kfX12_215 rfl ?_
    refine qr_iald (n := 308) 3 403 (dkX12_tellOne (i := 136) rfl) rfl lmA_3 ?_
    refine qr_bipush (n := 310) 24 (dkX12_tellOne (i := 137) rfl) rfl (by decide) ?_
    refine qr_isub (n := 311) (dkX12_tellOne (i := 138) rfl) rfl ?_
    refine qr_b (α := Int32) ((S0.1 3 (Int32.toNatClampNeg (S0.1 0 11))) - 24) (lvf := fun _ => [(0, .ref (G.2.2.1 0))]) (stf := fun z => .int z :: []) (Sf := fun _ => S0) (fun x1_2 => ?_)
    refine qr_istore_n (n := 312) (lv2 := [(0, .ref (G.2.2.1 0)), (1, .int x1_2)]) [1, 0] (dkX12_tellOne (i := 139) rfl) rfl rfl (by decide) rfl ?_
    refine qr_iload_n (n := 313) 1 (dkX12_tellOne (i := 140) rfl) rfl rfl ?_
    refine qr_j (fun K_3 : qv_St → Option qv_St => ∀ (S_17 : qv_St), VV G Lm X RX12 cX12_tellOne 2 none 7 qe_u 335 [(0, .ref (G.2.2.1 0)), (1, .int x1_2)] [] S_17 (K_3 S_17)) (fun S_17 => ?_) (fun K_3 hK_3 => ?_)
    · refine qr_aload_n (n := 336) 0 (dkX12_tellOne (i := 152) rfl) rfl rfl ?_
      refine qr_geti (n := 339) 0 13 (dkX12_tellOne (i := 153) rfl) rfl lmO rfl gnX12 (Nat.le_of_ble_eq_true rfl) kfX12_212 rfl ?_
      refine qr_if_le (t := 343) (n := 342) (dkX12_tellOne (i := 154) rfl) (by decide) rfl ?_ ?_
      · refine qr_aload_n (n := 344) 0 (dkX12_tellOne (i := 156) rfl) rfl rfl ?_
        refine qr_cvu (n := 347) 0 [] (dkX12_tellOne (i := 157) rfl) rfl kvX12_233 rfl rfl (Nat.le_of_ble_eq_true rfl) rfl rfl lmO rfl (wX12_goesOn G S_17) (fun S_18 => ?_)
        refine qr_aload_n (n := 348) 0 (dkX12_tellOne (i := 158) rfl) rfl rfl ?_
        refine qr_iload_n (n := 349) 1 (dkX12_tellOne (i := 159) rfl) rfl rfl ?_
        refine qr_cvu (n := 352) 0 [.int x1_2] (dkX12_tellOne (i := 160) rfl) rfl kvX12_291 rfl rfl (Nat.le_of_ble_eq_true rfl) rfl rfl lmO rfl (wX12_tellLaw G S_18 x1_2) (fun S_19 => ?_)
        exact qr_vret (dkX12_tellOne (i := 161) rfl) rfl rfl
      · exact qr_vret (dkX12_tellOne (i := 155) rfl) rfl rfl
    · refine qr_j (fun K_4 : Option qv_St => VV G Lm X RX12 cX12_tellOne 2 none 7 qe_u 330 [(0, .ref (G.2.2.1 0)), (1, .int x1_2)] [] S0 (K_4)) (?_) (fun K_4 hK_4 => ?_)
      · refine qr_aload_n (n := 331) 0 (dkX12_tellOne (i := 149) rfl) rfl rfl ?_
        refine qr_iconst (n := 332) 1 (dkX12_tellOne (i := 150) rfl) rfl (by decide) ?_
        refine qr_cvu (n := 335) 0 [.int 1] (dkX12_tellOne (i := 151) rfl) rfl kvX12_227 rfl rfl (Nat.le_of_ble_eq_true rfl) rfl rfl lmO rfl (wX12_fail G S0 1) (fun S_20 => ?_)
        exact hK_3 S_20
      · refine qr_if_lt (t := 330) (n := 316) (dkX12_tellOne (i := 141) rfl) (by decide) rfl ?_ ?_
        · exact hK_4
        · refine qr_aload_n (n := 317) 0 (dkX12_tellOne (i := 142) rfl) rfl rfl ?_
          refine qr_geta (n := 320) 0 5 3 (dkX12_tellOne (i := 143) rfl) rfl lmO rfl gnX12 (Nat.le_of_ble_eq_true rfl) kfX12_20 rfl ?_
          refine qr_aload_n (n := 321) 0 (dkX12_tellOne (i := 144) rfl) rfl rfl ?_
          refine qr_geti (n := 324) 0 11 (dkX12_tellOne (i := 145) rfl) rfl lmO rfl gnX12 (Nat.le_of_ble_eq_true rfl) kfX12_215 rfl ?_
          refine qr_iald (n := 325) 3 403 (dkX12_tellOne (i := 146) rfl) rfl lmA_3 ?_
          refine qr_bipush (n := 327) 26 (dkX12_tellOne (i := 147) rfl) rfl (by decide) ?_
          refine qr_icmp_le (t := 335) (n := 330) (dkX12_tellOne (i := 148) rfl) (by decide) rfl ?_ ?_
          · exact hK_3 S0
          · exact hK_4
  · refine qr_aload_n (n := 300) 0 (dkX12_tellOne (i := 132) rfl) rfl rfl ?_
    refine qr_geta (n := 303) 0 5 3 (dkX12_tellOne (i := 133) rfl) rfl lmO rfl gnX12 (Nat.le_of_ble_eq_true rfl) kfX12_20 rfl ?_
    refine qr_aload_n (n := 304) 0 (dkX12_tellOne (i := 134) rfl) rfl rfl ?_
    refine qr_geti (n := 307) 0 11 (dkX12_tellOne (i := 135) rfl) rfl lmO rfl gnX12 (Nat.le_of_ble_eq_true rfl) kfX12_215 rfl ?_
    refine qr_iald (n := 308) 3 403 (dkX12_tellOne (i := 136) rfl) rfl lmA_3 ?_
    refine qr_bipush (n := 310) 24 (dkX12_tellOne (i := 137) rfl) rfl (by decide) ?_
    refine qr_isub (n := 311) (dkX12_tellOne (i := 138) rfl) rfl ?_
    refine qr_b (α := Int32) ((S0.1 3 (Int32.toNatClampNeg (S0.1 0 11))) - 24) (lvf := fun _ => [(0, .ref (G.2.2.1 0))]) (stf := fun z => .int z :: []) (Sf := fun _ => S0) (fun x1_3 => ?_)
    refine qr_istore_n (n := 312) (lv2 := [(0, .ref (G.2.2.1 0)), (1, .int x1_3)]) [1, 0] (dkX12_tellOne (i := 139) rfl) rfl rfl (by decide) rfl ?_
    refine qr_iload_n (n := 313) 1 (dkX12_tellOne (i := 140) rfl) rfl rfl ?_
    refine qr_j (fun K_5 : qv_St → Option qv_St => ∀ (S_21 : qv_St), VV G Lm X RX12 cX12_tellOne 2 none 7 qe_u 335 [(0, .ref (G.2.2.1 0)), (1, .int x1_3)] [] S_21 (K_5 S_21)) (fun S_21 => ?_) (fun K_5 hK_5 => ?_)
    · refine qr_aload_n (n := 336) 0 (dkX12_tellOne (i := 152) rfl) rfl rfl ?_
      refine qr_geti (n := 339) 0 13 (dkX12_tellOne (i := 153) rfl) rfl lmO rfl gnX12 (Nat.le_of_ble_eq_true rfl) kfX12_212 rfl ?_
      refine qr_if_le (t := 343) (n := 342) (dkX12_tellOne (i := 154) rfl) (by decide) rfl ?_ ?_
      · refine qr_aload_n (n := 344) 0 (dkX12_tellOne (i := 156) rfl) rfl rfl ?_
        refine qr_cvu (n := 347) 0 [] (dkX12_tellOne (i := 157) rfl) rfl kvX12_233 rfl rfl (Nat.le_of_ble_eq_true rfl) rfl rfl lmO rfl (wX12_goesOn G S_21) (fun S_22 => ?_)
        refine qr_aload_n (n := 348) 0 (dkX12_tellOne (i := 158) rfl) rfl rfl ?_
        refine qr_iload_n (n := 349) 1 (dkX12_tellOne (i := 159) rfl) rfl rfl ?_
        refine qr_cvu (n := 352) 0 [.int x1_3] (dkX12_tellOne (i := 160) rfl) rfl kvX12_291 rfl rfl (Nat.le_of_ble_eq_true rfl) rfl rfl lmO rfl (wX12_tellLaw G S_22 x1_3) (fun S_23 => ?_)
        exact qr_vret (dkX12_tellOne (i := 161) rfl) rfl rfl
      · exact qr_vret (dkX12_tellOne (i := 155) rfl) rfl rfl
    · refine qr_j (fun K_6 : Option qv_St => VV G Lm X RX12 cX12_tellOne 2 none 7 qe_u 330 [(0, .ref (G.2.2.1 0)), (1, .int x1_3)] [] S0 (K_6)) (?_) (fun K_6 hK_6 => ?_)
      · refine qr_aload_n (n := 331) 0 (dkX12_tellOne (i := 149) rfl) rfl rfl ?_
        refine qr_iconst (n := 332) 1 (dkX12_tellOne (i := 150) rfl) rfl (by decide) ?_
        refine qr_cvu (n := 335) 0 [.int 1] (dkX12_tellOne (i := 151) rfl) rfl kvX12_227 rfl rfl (Nat.le_of_ble_eq_true rfl) rfl rfl lmO rfl (wX12_fail G S0 1) (fun S_24 => ?_)
        exact hK_5 S_24
      · refine qr_if_lt (t := 330) (n := 316) (dkX12_tellOne (i := 141) rfl) (by decide) rfl ?_ ?_
        · exact hK_6
        · refine qr_aload_n (n := 317) 0 (dkX12_tellOne (i := 142) rfl) rfl rfl ?_
          refine qr_geta (n := 320) 0 5 3 (dkX12_tellOne (i := 143) rfl) rfl lmO rfl gnX12 (Nat.le_of_ble_eq_true rfl) kfX12_20 rfl ?_
          refine qr_aload_n (n := 321) 0 (dkX12_tellOne (i := 144) rfl) rfl rfl ?_
          refine qr_geti (n := 324) 0 11 (dkX12_tellOne (i := 145) rfl) rfl lmO rfl gnX12 (Nat.le_of_ble_eq_true rfl) kfX12_215 rfl ?_
          refine qr_iald (n := 325) 3 403 (dkX12_tellOne (i := 146) rfl) rfl lmA_3 ?_
          refine qr_bipush (n := 327) 26 (dkX12_tellOne (i := 147) rfl) rfl (by decide) ?_
          refine qr_icmp_le (t := 335) (n := 330) (dkX12_tellOne (i := 148) rfl) (by decide) rfl ?_ ?_
          · exact hK_5 S0
          · exact hK_6
  · refine qr_aload_n (n := 300) 0 (dkX12_tellOne (i := 132) rfl) rfl rfl ?_
    refine qr_geta (n := 303) 0 5 3 (dkX12_tellOne (i := 133) rfl) rfl lmO rfl gnX12 (Nat.le_of_ble_eq_true rfl) kfX12_20 rfl ?_
    refine qr_aload_n (n := 304) 0 (dkX12_tellOne (i := 134) rfl) rfl rfl ?_
    refine qr_geti (n := 307) 0 11 (dkX12_tellOne (i := 135) rfl) rfl lmO rfl gnX12 (Nat.le_of_ble_eq_true rfl) kfX12_215 rfl ?_
    refine qr_iald (n := 308) 3 403 (dkX12_tellOne (i := 136) rfl) rfl lmA_3 ?_
    refine qr_bipush (n := 310) 24 (dkX12_tellOne (i := 137) rfl) rfl (by decide) ?_
    refine qr_isub (n := 311) (dkX12_tellOne (i := 138) rfl) rfl ?_
    refine qr_b (α := Int32) ((S0.1 3 (Int32.toNatClampNeg (S0.1 0 11))) - 24) (lvf := fun _ => [(0, .ref (G.2.2.1 0))]) (stf := fun z => .int z :: []) (Sf := fun _ => S0) (fun x1_4 => ?_)
    refine qr_istore_n (n := 312) (lv2 := [(0, .ref (G.2.2.1 0)), (1, .int x1_4)]) [1, 0] (dkX12_tellOne (i := 139) rfl) rfl rfl (by decide) rfl ?_
    refine qr_iload_n (n := 313) 1 (dkX12_tellOne (i := 140) rfl) rfl rfl ?_
    refine qr_j (fun K_7 : qv_St → Option qv_St => ∀ (S_25 : qv_St), VV G Lm X RX12 cX12_tellOne 2 none 7 qe_u 335 [(0, .ref (G.2.2.1 0)), (1, .int x1_4)] [] S_25 (K_7 S_25)) (fun S_25 => ?_) (fun K_7 hK_7 => ?_)
    · refine qr_aload_n (n := 336) 0 (dkX12_tellOne (i := 152) rfl) rfl rfl ?_
      refine qr_geti (n := 339) 0 13 (dkX12_tellOne (i := 153) rfl) rfl lmO rfl gnX12 (Nat.le_of_ble_eq_true rfl) kfX12_212 rfl ?_
      refine qr_if_le (t := 343) (n := 342) (dkX12_tellOne (i := 154) rfl) (by decide) rfl ?_ ?_
      · refine qr_aload_n (n := 344) 0 (dkX12_tellOne (i := 156) rfl) rfl rfl ?_
        refine qr_cvu (n := 347) 0 [] (dkX12_tellOne (i := 157) rfl) rfl kvX12_233 rfl rfl (Nat.le_of_ble_eq_true rfl) rfl rfl lmO rfl (wX12_goesOn G S_25) (fun S_26 => ?_)
        refine qr_aload_n (n := 348) 0 (dkX12_tellOne (i := 158) rfl) rfl rfl ?_
        refine qr_iload_n (n := 349) 1 (dkX12_tellOne (i := 159) rfl) rfl rfl ?_
        refine qr_cvu (n := 352) 0 [.int x1_4] (dkX12_tellOne (i := 160) rfl) rfl kvX12_291 rfl rfl (Nat.le_of_ble_eq_true rfl) rfl rfl lmO rfl (wX12_tellLaw G S_26 x1_4) (fun S_27 => ?_)
        exact qr_vret (dkX12_tellOne (i := 161) rfl) rfl rfl
      · exact qr_vret (dkX12_tellOne (i := 155) rfl) rfl rfl
    · refine qr_j (fun K_8 : Option qv_St => VV G Lm X RX12 cX12_tellOne 2 none 7 qe_u 330 [(0, .ref (G.2.2.1 0)), (1, .int x1_4)] [] S0 (K_8)) (?_) (fun K_8 hK_8 => ?_)
      · refine qr_aload_n (n := 331) 0 (dkX12_tellOne (i := 149) rfl) rfl rfl ?_
        refine qr_iconst (n := 332) 1 (dkX12_tellOne (i := 150) rfl) rfl (by decide) ?_
        refine qr_cvu (n := 335) 0 [.int 1] (dkX12_tellOne (i := 151) rfl) rfl kvX12_227 rfl rfl (Nat.le_of_ble_eq_true rfl) rfl rfl lmO rfl (wX12_fail G S0 1) (fun S_28 => ?_)
        exact hK_7 S_28
      · refine qr_if_lt (t := 330) (n := 316) (dkX12_tellOne (i := 141) rfl) (by decide) rfl ?_ ?_
        · exact hK_8
        · refine qr_aload_n (n := 317) 0 (dkX12_tellOne (i := 142) rfl) rfl rfl ?_
          refine qr_geta (n := 320) 0 5 3 (dkX12_tellOne (i := 143) rfl) rfl lmO rfl gnX12 (Nat.le_of_ble_eq_true rfl) kfX12_20 rfl ?_
          refine qr_aload_n (n := 321) 0 (dkX12_tellOne (i := 144) rfl) rfl rfl ?_
          refine qr_geti (n := 324) 0 11 (dkX12_tellOne (i := 145) rfl) rfl lmO rfl gnX12 (Nat.le_of_ble_eq_true rfl) kfX12_215 rfl ?_
          refine qr_iald (n := 325) 3 403 (dkX12_tellOne (i := 146) rfl) rfl lmA_3 ?_
          refine qr_bipush (n := 327) 26 (dkX12_tellOne (i := 147) rfl) rfl (by decide) ?_
          refine qr_icmp_le (t := 335) (n := 330) (dkX12_tellOne (i := 148) rfl) (by decide) rfl ?_ ?_
          · exact hK_7 S0
          · exact hK_8
  · refine qr_aload_n (n := 214) 0 (dkX12_tellOne (i := 87) rfl) rfl rfl ?_
    refine qr_cvu (n := 217) 0 [] (dkX12_tellOne (i := 88) rfl) rfl kvX12_233 rfl rfl (Nat.le_of_ble_eq_true rfl) rfl rfl lmO rfl (wX12_goesOn G S0) (fun S_29 => ?_)
    refine qr_aload_n (n := 218) 0 (dkX12_tellOne (i := 89) rfl) rfl rfl ?_
    refine qr_geta (n := 221) 0 34 21 (dkX12_tellOne (i := 90) rfl) rfl lmO rfl gnX12 (Nat.le_of_ble_eq_true rfl) kfX12_80 rfl ?_
    refine qr_aload_n (n := 222) 0 (dkX12_tellOne (i := 91) rfl) rfl rfl ?_
    refine qr_geti (n := 225) 0 19 (dkX12_tellOne (i := 92) rfl) rfl lmO rfl gnX12 (Nat.le_of_ble_eq_true rfl) kfX12_245 rfl ?_
    refine qr_aload_n (n := 226) 0 (dkX12_tellOne (i := 93) rfl) rfl rfl ?_
    refine qr_iconst (n := 227) 0 (dkX12_tellOne (i := 94) rfl) rfl (by decide) ?_
    refine qr_bipush (n := 229) 99 (dkX12_tellOne (i := 95) rfl) rfl (by decide) ?_
    refine qr_cvm (n := 232) 0 [.int 0, .int 99] (dkX12_tellOne (i := 96) rfl) rfl kvX12_278 rfl rfl (Nat.le_of_ble_eq_true rfl) rfl rfl lmO rfl (wX12_bounded G S_29 0 99) (fun S_30 r_5 => ?_)
    refine qr_iast (n := 233) 21 2 (dkX12_tellOne (i := 97) rfl) rfl lmA_21 (fun S_31 => ?_)
    refine qr_aload_n (n := 234) 0 (dkX12_tellOne (i := 98) rfl) rfl rfl ?_
    refine qr_iconst (n := 235) 4 (dkX12_tellOne (i := 99) rfl) rfl (by decide) ?_
    refine qr_cvu (n := 238) 0 [.int 4] (dkX12_tellOne (i := 100) rfl) rfl kvX12_288 rfl rfl (Nat.le_of_ble_eq_true rfl) rfl rfl lmO rfl (wX12_must G S_31 4) (fun S_32 => ?_)
    refine qr_goto (n := 352) (dkX12_tellOne (i := 101) rfl) (by decide) ?_
    exact qr_vret (dkX12_tellOne (i := 161) rfl) rfl rfl
  · refine qr_aload_n (n := 242) 0 (dkX12_tellOne (i := 102) rfl) rfl rfl ?_
    refine qr_cvu (n := 245) 0 [] (dkX12_tellOne (i := 103) rfl) rfl kvX12_233 rfl rfl (Nat.le_of_ble_eq_true rfl) rfl rfl lmO rfl (wX12_goesOn G S0) (fun S_33 => ?_)
    refine qr_aload_n (n := 246) 0 (dkX12_tellOne (i := 104) rfl) rfl rfl ?_
    refine qr_geta (n := 249) 0 35 22 (dkX12_tellOne (i := 105) rfl) rfl lmO rfl gnX12 (Nat.le_of_ble_eq_true rfl) kfX12_83 rfl ?_
    refine qr_aload_n (n := 250) 0 (dkX12_tellOne (i := 106) rfl) rfl rfl ?_
    refine qr_geti (n := 253) 0 19 (dkX12_tellOne (i := 107) rfl) rfl lmO rfl gnX12 (Nat.le_of_ble_eq_true rfl) kfX12_245 rfl ?_
    refine qr_aload_n (n := 254) 0 (dkX12_tellOne (i := 108) rfl) rfl rfl ?_
    refine qr_iconst (n := 255) 0 (dkX12_tellOne (i := 109) rfl) rfl (by decide) ?_
    refine qr_sipush (n := 258) 9999 (dkX12_tellOne (i := 110) rfl) rfl (by decide) ?_
    refine qr_cvm (n := 261) 0 [.int 0, .int 9999] (dkX12_tellOne (i := 111) rfl) rfl kvX12_278 rfl rfl (Nat.le_of_ble_eq_true rfl) rfl rfl lmO rfl (wX12_bounded G S_33 0 9999) (fun S_34 r_6 => ?_)
    refine qr_iast (n := 262) 22 2 (dkX12_tellOne (i := 112) rfl) rfl lmA_22 (fun S_35 => ?_)
    refine qr_aload_n (n := 263) 0 (dkX12_tellOne (i := 113) rfl) rfl rfl ?_
    refine qr_iconst (n := 264) 4 (dkX12_tellOne (i := 114) rfl) rfl (by decide) ?_
    refine qr_cvu (n := 267) 0 [.int 4] (dkX12_tellOne (i := 115) rfl) rfl kvX12_288 rfl rfl (Nat.le_of_ble_eq_true rfl) rfl rfl lmO rfl (wX12_must G S_35 4) (fun S_36 => ?_)
    refine qr_goto (n := 352) (dkX12_tellOne (i := 116) rfl) (by decide) ?_
    exact qr_vret (dkX12_tellOne (i := 161) rfl) rfl rfl
  · refine qr_aload_n (n := 271) 0 (dkX12_tellOne (i := 117) rfl) rfl rfl ?_
    refine qr_cvu (n := 274) 0 [] (dkX12_tellOne (i := 118) rfl) rfl kvX12_233 rfl rfl (Nat.le_of_ble_eq_true rfl) rfl rfl lmO rfl (wX12_goesOn G S0) (fun S_37 => ?_)
    refine qr_aload_n (n := 275) 0 (dkX12_tellOne (i := 119) rfl) rfl rfl ?_
    refine qr_geta (n := 278) 0 36 23 (dkX12_tellOne (i := 120) rfl) rfl lmO rfl gnX12 (Nat.le_of_ble_eq_true rfl) kfX12_86 rfl ?_
    refine qr_aload_n (n := 279) 0 (dkX12_tellOne (i := 121) rfl) rfl rfl ?_
    refine qr_geti (n := 282) 0 19 (dkX12_tellOne (i := 122) rfl) rfl lmO rfl gnX12 (Nat.le_of_ble_eq_true rfl) kfX12_245 rfl ?_
    refine qr_aload_n (n := 283) 0 (dkX12_tellOne (i := 123) rfl) rfl rfl ?_
    refine qr_iconst (n := 284) 0 (dkX12_tellOne (i := 124) rfl) rfl (by decide) ?_
    refine qr_sipush (n := 287) 9999 (dkX12_tellOne (i := 125) rfl) rfl (by decide) ?_
    refine qr_cvm (n := 290) 0 [.int 0, .int 9999] (dkX12_tellOne (i := 126) rfl) rfl kvX12_278 rfl rfl (Nat.le_of_ble_eq_true rfl) rfl rfl lmO rfl (wX12_bounded G S_37 0 9999) (fun S_38 r_7 => ?_)
    refine qr_iast (n := 291) 23 2 (dkX12_tellOne (i := 127) rfl) rfl lmA_23 (fun S_39 => ?_)
    refine qr_aload_n (n := 292) 0 (dkX12_tellOne (i := 128) rfl) rfl rfl ?_
    refine qr_iconst (n := 293) 4 (dkX12_tellOne (i := 129) rfl) rfl (by decide) ?_
    refine qr_cvu (n := 296) 0 [.int 4] (dkX12_tellOne (i := 130) rfl) rfl kvX12_288 rfl rfl (Nat.le_of_ble_eq_true rfl) rfl rfl lmO rfl (wX12_must G S_39 4) (fun S_40 => ?_)
    refine qr_goto (n := 352) (dkX12_tellOne (i := 131) rfl) (by decide) ?_
    exact qr_vret (dkX12_tellOne (i := 161) rfl) rfl rfl
