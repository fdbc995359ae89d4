def tbX12_cheapest : List (Nat × Instr × Nat) := [(0, .aload_n 0, 1), (1, .iload_n 1, 1), (2, .invokevirtual 390, 3), (5, .ifCond .eq 12, 3), (8, .iload_n 2, 1), (9, .iconst 0, 1), (10, .iconst 1, 1), (11, .invokestatic 319, 3), (14, .ifCond .ne 5, 3), (17, .iconst (-1), 1), (18, .ireturn, 1), (19, .aload_n 0, 1), (20, .getfield 65, 3), (23, .aload_n 0, 1), (24, .getfield 242, 3), (27, .iaload, 1), (28, .ifCond .ne 6, 3), (31, .bipush (-2), 2), (33, .ireturn, 1), (34, .bipush (-2), 2), (36, .istore_n 3, 1), (37, .iconst 0, 1), (38, .istore 4, 2), (40, .iconst 0, 1), (41, .istore 5, 2), (43, .iload 5, 2), (45, .iconst 1, 1), (46, .aload_n 0, 1), (47, .getfield 43, 3), (50, .aload_n 0, 1), (51, .getfield 242, 3), (54, .iaload, 1), (55, .ishl, 1), (56, .if_icmp .ge 169, 3), (59, .iconst 0, 1), (60, .istore 6, 2), (62, .iconst 0, 1), (63, .istore 7, 2), (65, .iload 7, 2), (67, .aload_n 0, 1), (68, .getfield 43, 3), (71, .aload_n 0, 1), (72, .getfield 242, 3), (75, .iaload, 1), (76, .if_icmp .ge 46, 3), (79, .iload 5, 2), (81, .iload 7, 2), (83, .ishr, 1), (84, .iconst 1, 1), (85, .iand, 1), (86, .iconst 1, 1), (87, .if_icmp .ne 29, 3), (90, .iload 6, 2), (92, .aload_n 0, 1), (93, .iload_n 1, 1), (94, .invokevirtual 368, 3), (97, .aload_n 0, 1), (98, .getfield 62, 3), (101, .bipush 8, 2), (103, .aload_n 0, 1), (104, .getfield 242, 3), (107, .imul, 1), (108, .iload 7, 2), (110, .iadd, 1), (111, .iaload, 1), (112, .imul, 1), (113, .iadd, 1), (114, .istore 6, 2), (116, .iinc 7 1, 3), (119, .goto (-54), 3), (122, .iload_n 3, 1), (123, .ifCond .lt 13, 3), (126, .iload 6, 2), (128, .iload 4, 2), (130, .if_icmp .lt 6, 3), (133, .goto 86, 3), (136, .aload_n 0, 1), (137, .invokevirtual 384, 3), (140, .iconst 0, 1), (141, .istore 7, 2), (143, .iload 7, 2), (145, .aload_n 0, 1), (146, .getfield 43, 3), (149, .aload_n 0, 1), (150, .getfield 242, 3), (153, .iaload, 1), (154, .if_icmp .ge 31, 3), (157, .iload 5, 2), (159, .iload 7, 2), (161, .ishr, 1), (162, .iconst 1, 1), (163, .iand, 1), (164, .iconst 1, 1), (165, .if_icmp .ne 14, 3), (168, .aload_n 0, 1), (169, .iload 7, 2), (171, .aload_n 0, 1), (172, .iload_n 1, 1), (173, .invokevirtual 368, 3), (176, .invokevirtual 405, 3), (179, .iinc 7 1, 3), (182, .goto (-39), 3), (185, .aload_n 0, 1), (186, .aload_n 0, 1), (187, .getfield 128, 3), (190, .iconst 1, 1), (191, .iaload, 1), (192, .aload_n 0, 1), (193, .iload_n 1, 1), (194, .invokevirtual 368, 3), (197, .invokevirtual 396, 3), (200, .aload_n 0, 1), (201, .iload_n 1, 1), (202, .iconst 0, 1), (203, .invokevirtual 420, 3), (206, .ifCond .ne 6, 3), (209, .goto 10, 3), (212, .iload 5, 2), (214, .istore_n 3, 1), (215, .iload 6, 2), (217, .istore 4, 2), (219, .iinc 5 1, 3), (222, .goto (-179), 3), (225, .iload_n 3, 1), (226, .ifCond .lt 8, 3), (229, .iload_n 2, 1), (230, .iconst 1, 1), (231, .if_icmp .ne 7, 3), (234, .iload_n 3, 1), (235, .goto 5, 3), (238, .iload 4, 2), (240, .ireturn, 1)]
set_option maxRecDepth 20000 in
theorem daX12_cheapest : ∀ x ∈ tbX12_cheapest, decode cX12_cheapest x.1 = .ok x.2 := by decide +kernel
theorem dkX12_cheapest {i pc n : Nat} {ins : Instr} (h : tbX12_cheapest[i]? = some (pc, ins, n)) : decode cX12_cheapest pc = .ok (ins, n) := daX12_cheapest (pc, ins, n) (List.mem_of_getElem? h)
def fX12_cheapest (S0 : qv_St) (x1 : Int32) (x2 : Int32) : Option (qv_St × Int32) :=
  (fX12_isShot S0 x1).bind fun r_1 =>
  if r_1 = 0 then
    some (S0, (-1))
  else
    (fX12_in x2 0 1).bind fun r_2 =>
    if r_2 = 0 then
      some (S0, (-1))
    else
      qv_ck (S0.1 0 18) 2 <|
      if (S0.1 16 (Int32.toNatClampNeg (S0.1 0 18))) = 0 then
        some (S0, (-2))
      else
        qv_j (fun (S_1 : qv_St) (x3_1 : Int32) (x4_1 : Int32) =>
          qv_j (
            some (S_1, x3_1)) fun K_2 =>
          if x3_1 < 0 then
            K_2
          else
            if x2 = 1 then
              K_2
            else
              some (S_1, x4_1)) fun K_1 =>
        qv_lp4 qv_N (fun self_1 (S_2 : qv_St) (x3_2 : Int32) (x4_2 : Int32) (x5_1 : Int32) =>
          qv_ck (S_2.1 0 18) 2 <|
          if (1 <<< ((S_2.1 9 (Int32.toNatClampNeg (S_2.1 0 18))) &&& 31)) ≤ x5_1 then
            K_1 S_2 x3_2 x4_2
          else
            qv_j (fun (x6_1 : Int32) =>
              qv_j (fun (S_3 : qv_St) (x3_3 : Int32) (x4_3 : Int32) =>
                self_1 S_3 x3_3 x4_3 (x5_1 + 1)) fun K_4 =>
              qv_j (
                (fX12_copies S_2).bind fun S_4 =>
                qv_j (fun (S_5 : qv_St) =>
                  qv_ck 1 32 <|
                  (fX12_longFor S_5 x1).bind fun r_3 =>
                  (fX12_fillsLoud S_5 (S_5.1 37 (Int32.toNatClampNeg 1)) r_3).bind fun S_6 =>
                  qv_cm (fX12_isGood S_6 x1 0) fun S_7 r_4 =>
                  if r_4 = 0 then
                    K_4 S_7 x3_2 x4_2
                  else
                    K_4 S_7 x5_1 x6_1) fun K_6 =>
                qv_lp2 qv_N (fun self_2 (S_8 : qv_St) (x7_1 : Int32) =>
                  qv_ck (S_8.1 0 18) 2 <|
                  if (S_8.1 9 (Int32.toNatClampNeg (S_8.1 0 18))) ≤ x7_1 then
                    K_6 S_8
                  else
                    qv_j (fun (S_9 : qv_St) =>
                      self_2 S_9 (x7_1 + 1)) fun K_7 =>
                    if ((x5_1 >>> (x7_1 &&& 31)) &&& 1) = 1 then
                      (fX12_longFor S_8 x1).bind fun r_5 =>
                      (fX12_pays S_8 x7_1 r_5).bind fun S_10 =>
                      K_7 S_10
                    else
                      K_7 S_8) S_4 0) fun K_5 =>
              if x3_2 < 0 then
                K_5
              else
                if x6_1 < x4_2 then
                  K_5
                else
                  K_4 S_2 x3_2 x4_2) fun K_3 =>
            qv_lp2 qv_N (fun self_3 (x6_2 : Int32) (x7_2 : Int32) =>
              qv_ck (S_2.1 0 18) 2 <|
              if (S_2.1 9 (Int32.toNatClampNeg (S_2.1 0 18))) ≤ x7_2 then
                K_3 x6_2
              else
                qv_j (fun (x6_3 : Int32) =>
                  self_3 x6_3 (x7_2 + 1)) fun K_8 =>
                if ((x5_1 >>> (x7_2 &&& 31)) &&& 1) = 1 then
                  (fX12_longFor S_2 x1).bind fun r_6 =>
                  qv_ck ((8 * (S_2.1 0 18)) + x7_2) 16 <|
                  qv_b ((x6_2 + (r_6 * (S_2.1 15 (Int32.toNatClampNeg ((8 * (S_2.1 0 18)) + x7_2))))) : Int32) fun x6_4 =>
                  K_8 x6_4
                else
                  K_8 x6_2) 0 0) S0 (-2) 0 0
set_option maxRecDepth 20000 in
set_option maxHeartbeats 4000000 in
theorem wX12_cheapest (G : qv_GT) (S0 : qv_St) (x1 : Int32) (x2 : Int32) : ∀ r, fX12_cheapest S0 x1 x2 = some r → Cn G Lm yX12_cheapest cX12_cheapest 8 (some .int) 10 [.ref (G.2.2.1 0), .int x1, .int x2] S0 (qe_m r) := by
  refine cn_of (own := RX12) (emb := qe_m) (lv := [(0, .ref (G.2.2.1 0)), (1, .int x1), (2, .int x2)]) rfl rfl (Nat.le_of_ble_eq_true rfl) rfl (fun X => ?_)
  unfold fX12_cheapest
  refine qr_aload_n (n := 1) 0 (dkX12_cheapest (i := 0) rfl) rfl rfl ?_
  refine qr_iload_n (n := 2) 1 (dkX12_cheapest (i := 1) rfl) rfl rfl ?_
  refine qr_cvi (n := 5) 0 [.int x1] (dkX12_cheapest (i := 2) rfl) rfl kvX12_390 rfl rfl (Nat.le_of_ble_eq_true rfl) rfl rfl lmO rfl (wX12_isShot G S0 x1) (fun r_1 => ?_)
  refine qr_if_eq (t := 17) (n := 8) (dkX12_cheapest (i := 3) rfl) (by decide) rfl ?_ ?_
  · refine qr_iconst (n := 18) (-1) (dkX12_cheapest (i := 9) rfl) rfl (by decide) ?_
    exact qr_iret (dkX12_cheapest (i := 10) rfl) rfl rfl
  · refine qr_iload_n (n := 9) 2 (dkX12_cheapest (i := 4) rfl) rfl rfl ?_
    refine qr_iconst (n := 10) 0 (dkX12_cheapest (i := 5) rfl) rfl (by decide) ?_
    refine qr_iconst (n := 11) 1 (dkX12_cheapest (i := 6) rfl) rfl (by decide) ?_
    refine qr_csi (n := 14) [.int x2, .int 0, .int 1] (dkX12_cheapest (i := 7) rfl) rfl kvX12_319 rfl rfl (Nat.le_of_ble_eq_true rfl) rfl rfl (wX12_in G S0 x2 0 1) (fun r_2 => ?_)
    refine qr_if_ne (t := 19) (n := 17) (dkX12_cheapest (i := 8) rfl) (by decide) rfl ?_ ?_
    · refine qr_aload_n (n := 20) 0 (dkX12_cheapest (i := 11) rfl) rfl rfl ?_
      refine qr_geta (n := 23) 0 29 16 (dkX12_cheapest (i := 12) rfl) rfl lmO rfl gnX12 (Nat.le_of_ble_eq_true rfl) kfX12_65 rfl ?_
      refine qr_aload_n (n := 24) 0 (dkX12_cheapest (i := 13) rfl) rfl rfl ?_
      refine qr_geti (n := 27) 0 18 (dkX12_cheapest (i := 14) rfl) rfl lmO rfl gnX12 (Nat.le_of_ble_eq_true rfl) kfX12_242 rfl ?_
      refine qr_iald (n := 28) 16 2 (dkX12_cheapest (i := 15) rfl) rfl lmA_16 ?_
      refine qr_if_ne (t := 34) (n := 31) (dkX12_cheapest (i := 16) rfl) (by decide) rfl ?_ ?_
      · refine qr_bipush (n := 36) (-2) (dkX12_cheapest (i := 19) rfl) rfl (by decide) ?_
        refine qr_istore_n (n := 37) (lv2 := [(0, .ref (G.2.2.1 0)), (1, .int x1), (2, .int x2), (3, .int (-2))]) [1, 2, 3, 0] (dkX12_cheapest (i := 20) rfl) rfl rfl (by decide) rfl ?_
        refine qr_iconst (n := 38) 0 (dkX12_cheapest (i := 21) rfl) rfl (by decide) ?_
        refine qr_istore (n := 40) (lv2 := [(0, .ref (G.2.2.1 0)), (1, .int x1), (2, .int x2), (3, .int (-2)), (4, .int 0)]) [1, 2, 3, 4, 0] (dkX12_cheapest (i := 22) rfl) rfl (by decide) rfl ?_
        refine qr_iconst (n := 41) 0 (dkX12_cheapest (i := 23) rfl) rfl (by decide) ?_
        refine qr_istore (n := 43) (lv2 := [(0, .ref (G.2.2.1 0)), (1, .int x1), (2, .int x2), (3, .int (-2)), (4, .int 0), (5, .int 0)]) [1, 2, 3, 4, 5, 0] (dkX12_cheapest (i := 24) rfl) rfl (by decide) rfl ?_
        refine qr_j (fun K_1 : qv_St → Int32 → Int32 → Option (qv_St × Int32) => ∀ (S_1 : qv_St) (x3_1 : Int32) (x4_1 : Int32), VV G Lm X RX12 cX12_cheapest 8 (some .int) 10 qe_m 225 [(2, .int x2), (3, .int x3_1), (4, .int x4_1)] [] S_1 (K_1 S_1 x3_1 x4_1)) (fun S_1 x3_1 x4_1 => ?_) (fun K_1 hK_1 => ?_)
        · refine qr_iload_n (n := 226) 1 (dkX12_cheapest (i := 123) rfl) rfl rfl ?_
          refine qr_j (fun K_2 : Option (qv_St × Int32) => VV G Lm X RX12 cX12_cheapest 8 (some .int) 10 qe_m 234 [(3, .int x3_1)] [] S_1 (K_2)) (?_) (fun K_2 hK_2 => ?_)
          · refine qr_iload_n (n := 235) 0 (dkX12_cheapest (i := 128) rfl) rfl rfl ?_
            refine qr_goto (n := 240) (dkX12_cheapest (i := 129) rfl) (by decide) ?_
            exact qr_iret (dkX12_cheapest (i := 131) rfl) rfl rfl
          · refine qr_if_lt (t := 234) (n := 229) (dkX12_cheapest (i := 124) rfl) (by decide) rfl ?_ ?_
            · refine qr_sub [1] rfl ?_
              exact hK_2
            · refine qr_iload_n (n := 230) 0 (dkX12_cheapest (i := 125) rfl) rfl rfl ?_
              refine qr_iconst (n := 231) 1 (dkX12_cheapest (i := 126) rfl) rfl (by decide) ?_
              refine qr_icmp_ne (t := 238) (n := 234) (dkX12_cheapest (i := 127) rfl) (by decide) rfl ?_ ?_
              · refine qr_iload (n := 240) 2 (dkX12_cheapest (i := 130) rfl) rfl rfl ?_
                exact qr_iret (dkX12_cheapest (i := 131) rfl) rfl rfl
              · refine qr_sub [1] rfl ?_
                exact hK_2
        · refine qr_lp4 (fun (S_2 : qv_St) (x3_2 : Int32) (x4_2 : Int32) (x5_1 : Int32) => [(0, .ref (G.2.2.1 0)), (1, .int x1), (2, .int x2), (3, .int x3_2), (4, .int x4_2), (5, .int x5_1)]) (fun (S_2 : qv_St) (x3_2 : Int32) (x4_2 : Int32) (x5_1 : Int32) => S_2) (fun self_1 hself_1 S_2 x3_2 x4_2 x5_1 => ?_) qv_N S0 (-2) 0 0
          refine qr_iload (n := 45) 5 (dkX12_cheapest (i := 25) rfl) rfl rfl ?_
          refine qr_iconst (n := 46) 1 (dkX12_cheapest (i := 26) rfl) rfl (by decide) ?_
          refine qr_aload_n (n := 47) 0 (dkX12_cheapest (i := 27) rfl) rfl rfl ?_
          refine qr_geta (n := 50) 0 22 9 (dkX12_cheapest (i := 28) rfl) rfl lmO rfl gnX12 (Nat.le_of_ble_eq_true rfl) kfX12_43 rfl ?_
          refine qr_aload_n (n := 51) 0 (dkX12_cheapest (i := 29) rfl) rfl rfl ?_
          refine qr_geti (n := 54) 0 18 (dkX12_cheapest (i := 30) rfl) rfl lmO rfl gnX12 (Nat.le_of_ble_eq_true rfl) kfX12_242 rfl ?_
          refine qr_iald (n := 55) 9 2 (dkX12_cheapest (i := 31) rfl) rfl lmA_9 ?_
          refine qr_ishl (n := 56) (dkX12_cheapest (i := 32) rfl) rfl ?_
          refine qr_icmp_ge (t := 225) (n := 59) (dkX12_cheapest (i := 33) rfl) (by decide) rfl ?_ ?_
          · refine qr_sub [2, 3, 4] rfl ?_
            exact hK_1 S_2 x3_2 x4_2
          · refine qr_iconst (n := 60) 0 (dkX12_cheapest (i := 34) rfl) rfl (by decide) ?_
            refine qr_istore (n := 62) (lv2 := [(0, .ref (G.2.2.1 0)), (1, .int x1), (2, .int x2), (3, .int x3_2), (4, .int x4_2), (5, .int x5_1), (6, .int 0)]) [1, 2, 3, 4, 5, 6, 0] (dkX12_cheapest (i := 35) rfl) rfl (by decide) rfl ?_
            refine qr_iconst (n := 63) 0 (dkX12_cheapest (i := 36) rfl) rfl (by decide) ?_
            refine qr_istore (n := 65) (lv2 := [(0, .ref (G.2.2.1 0)), (1, .int x1), (2, .int x2), (3, .int x3_2), (4, .int x4_2), (5, .int x5_1), (6, .int 0), (7, .int 0)]) [1, 2, 3, 4, 5, 6, 7, 0] (dkX12_cheapest (i := 37) rfl) rfl (by decide) rfl ?_
            refine qr_j (fun K_3 : Int32 → Option (qv_St × Int32) => ∀ (x6_1 : Int32), VV G Lm X RX12 cX12_cheapest 8 (some .int) 10 qe_m 122 [(0, .ref (G.2.2.1 0)), (1, .int x1), (2, .int x2), (3, .int x3_2), (4, .int x4_2), (5, .int x5_1), (6, .int x6_1)] [] S_2 (K_3 x6_1)) (fun x6_1 => ?_) (fun K_3 hK_3 => ?_)
            · refine qr_iload_n (n := 123) 3 (dkX12_cheapest (i := 70) rfl) rfl rfl ?_
              refine qr_j (fun K_4 : qv_St → Int32 → Int32 → Option (qv_St × Int32) => ∀ (S_3 : qv_St) (x3_3 : Int32) (x4_3 : Int32), VV G Lm X RX12 cX12_cheapest 8 (some .int) 10 qe_m 219 [(0, .ref (G.2.2.1 0)), (1, .int x1), (2, .int x2), (3, .int x3_3), (4, .int x4_3), (5, .int x5_1)] [] S_3 (K_4 S_3 x3_3 x4_3)) (fun S_3 x3_3 x4_3 => ?_) (fun K_4 hK_4 => ?_)
              · refine qr_iinc (n := 222) (v := 1) (lv2 := [(0, .ref (G.2.2.1 0)), (1, .int x1), (2, .int x2), (3, .int x3_3), (4, .int x4_3), (5, .int (x5_1 + 1))]) 5 [1, 2, 3, 4, 5, 0] (dkX12_cheapest (i := 121) rfl) rfl rfl (by decide) (by decide) rfl ?_
                refine qr_goto (n := 43) (dkX12_cheapest (i := 122) rfl) (by decide) ?_
                exact hself_1 S_3 x3_3 x4_3 (x5_1 + 1)
              · refine qr_j (fun K_5 : Option (qv_St × Int32) => VV G Lm X RX12 cX12_cheapest 8 (some .int) 10 qe_m 136 [(0, .ref (G.2.2.1 0)), (1, .int x1), (2, .int x2), (3, .int x3_2), (4, .int x4_2), (5, .int x5_1), (6, .int x6_1)] [] S_2 (K_5)) (?_) (fun K_5 hK_5 => ?_)
                · refine qr_aload_n (n := 137) 0 (dkX12_cheapest (i := 76) rfl) rfl rfl ?_
                  refine qr_cvu (n := 140) 0 [] (dkX12_cheapest (i := 77) rfl) rfl kvX12_384 rfl rfl (Nat.le_of_ble_eq_true rfl) rfl rfl lmO rfl (wX12_copies G S_2) (fun S_4 => ?_)
                  refine qr_iconst (n := 141) 0 (dkX12_cheapest (i := 78) rfl) rfl (by decide) ?_
                  refine qr_istore (n := 143) (lv2 := [(0, .ref (G.2.2.1 0)), (1, .int x1), (2, .int x2), (3, .int x3_2), (4, .int x4_2), (5, .int x5_1), (6, .int x6_1), (7, .int 0)]) [1, 2, 3, 4, 5, 6, 7, 0] (dkX12_cheapest (i := 79) rfl) rfl (by decide) rfl ?_
                  refine qr_j (fun K_6 : qv_St → Option (qv_St × Int32) => ∀ (S_5 : qv_St), VV G Lm X RX12 cX12_cheapest 8 (some .int) 10 qe_m 185 [(0, .ref (G.2.2.1 0)), (1, .int x1), (2, .int x2), (3, .int x3_2), (4, .int x4_2), (5, .int x5_1), (6, .int x6_1)] [] S_5 (K_6 S_5)) (fun S_5 => ?_) (fun K_6 hK_6 => ?_)
                  · refine qr_aload_n (n := 186) 0 (dkX12_cheapest (i := 102) rfl) rfl rfl ?_
                    refine qr_aload_n (n := 187) 0 (dkX12_cheapest (i := 103) rfl) rfl rfl ?_
                    refine qr_geta (n := 190) 0 54 37 (dkX12_cheapest (i := 104) rfl) rfl lmO rfl gnX12 (Nat.le_of_ble_eq_true rfl) kfX12_128 rfl ?_
                    refine qr_iconst (n := 191) 1 (dkX12_cheapest (i := 105) rfl) rfl (by decide) ?_
                    refine qr_iald (n := 192) 37 32 (dkX12_cheapest (i := 106) rfl) rfl lmA_37 ?_
                    refine qr_aload_n (n := 193) 0 (dkX12_cheapest (i := 107) rfl) rfl rfl ?_
                    refine qr_iload_n (n := 194) 1 (dkX12_cheapest (i := 108) rfl) rfl rfl ?_
                    refine qr_cvi (n := 197) 0 [.int x1] (dkX12_cheapest (i := 109) rfl) rfl kvX12_368 rfl rfl (Nat.le_of_ble_eq_true rfl) rfl rfl lmO rfl (wX12_longFor G S_5 x1) (fun r_3 => ?_)
                    refine qr_cvu (n := 200) 0 [.int (S_5.1 37 (Int32.toNatClampNeg 1)), .int r_3] (dkX12_cheapest (i := 110) rfl) rfl kvX12_396 rfl rfl (Nat.le_of_ble_eq_true rfl) rfl rfl lmO rfl (wX12_fillsLoud G S_5 (S_5.1 37 (Int32.toNatClampNeg 1)) r_3) (fun S_6 => ?_)
                    refine qr_aload_n (n := 201) 0 (dkX12_cheapest (i := 111) rfl) rfl rfl ?_
                    refine qr_iload_n (n := 202) 1 (dkX12_cheapest (i := 112) rfl) rfl rfl ?_
                    refine qr_iconst (n := 203) 0 (dkX12_cheapest (i := 113) rfl) rfl (by decide) ?_
                    refine qr_cvm (n := 206) 0 [.int x1, .int 0] (dkX12_cheapest (i := 114) rfl) rfl kvX12_420 rfl rfl (Nat.le_of_ble_eq_true rfl) rfl rfl lmO rfl (wX12_isGood G S_6 x1 0) (fun S_7 r_4 => ?_)
                    refine qr_if_ne (t := 212) (n := 209) (dkX12_cheapest (i := 115) rfl) (by decide) rfl ?_ ?_
                    · refine qr_iload (n := 214) 5 (dkX12_cheapest (i := 117) rfl) rfl rfl ?_
                      refine qr_istore_n (n := 215) (lv2 := [(0, .ref (G.2.2.1 0)), (1, .int x1), (2, .int x2), (3, .int x5_1), (4, .int x4_2), (5, .int x5_1), (6, .int x6_1)]) [1, 2, 3, 0, 4, 5, 6] (dkX12_cheapest (i := 118) rfl) rfl rfl (by decide) rfl ?_
                      refine qr_iload (n := 217) 6 (dkX12_cheapest (i := 119) rfl) rfl rfl ?_
                      refine qr_istore (n := 219) (lv2 := [(0, .ref (G.2.2.1 0)), (1, .int x1), (2, .int x2), (3, .int x5_1), (4, .int x6_1), (5, .int x5_1), (6, .int x6_1)]) [1, 2, 3, 4, 0, 5, 6] (dkX12_cheapest (i := 120) rfl) rfl (by decide) rfl ?_
                      refine qr_sub [0, 1, 2, 3, 4, 5] rfl ?_
                      exact hK_4 S_7 x5_1 x6_1
                    · refine qr_goto (n := 219) (dkX12_cheapest (i := 116) rfl) (by decide) ?_
                      refine qr_sub [0, 1, 2, 3, 4, 5] rfl ?_
                      exact hK_4 S_7 x3_2 x4_2
                  · refine qr_lp2 (fun (S_8 : qv_St) (x7_1 : Int32) => [(0, .ref (G.2.2.1 0)), (1, .int x1), (2, .int x2), (3, .int x3_2), (4, .int x4_2), (5, .int x5_1), (6, .int x6_1), (7, .int x7_1)]) (fun (S_8 : qv_St) (x7_1 : Int32) => S_8) (fun self_2 hself_2 S_8 x7_1 => ?_) qv_N S_4 0
                    refine qr_iload (n := 145) 7 (dkX12_cheapest (i := 80) rfl) rfl rfl ?_
                    refine qr_aload_n (n := 146) 0 (dkX12_cheapest (i := 81) rfl) rfl rfl ?_
                    refine qr_geta (n := 149) 0 22 9 (dkX12_cheapest (i := 82) rfl) rfl lmO rfl gnX12 (Nat.le_of_ble_eq_true rfl) kfX12_43 rfl ?_
                    refine qr_aload_n (n := 150) 0 (dkX12_cheapest (i := 83) rfl) rfl rfl ?_
                    refine qr_geti (n := 153) 0 18 (dkX12_cheapest (i := 84) rfl) rfl lmO rfl gnX12 (Nat.le_of_ble_eq_true rfl) kfX12_242 rfl ?_
                    refine qr_iald (n := 154) 9 2 (dkX12_cheapest (i := 85) rfl) rfl lmA_9 ?_
                    refine qr_icmp_ge (t := 185) (n := 157) (dkX12_cheapest (i := 86) rfl) (by decide) rfl ?_ ?_
                    · refine qr_sub [0, 1, 2, 3, 4, 5, 6] rfl ?_
                      exact hK_6 S_8
                    · refine qr_iload (n := 159) 5 (dkX12_cheapest (i := 87) rfl) rfl rfl ?_
                      refine qr_iload (n := 161) 7 (dkX12_cheapest (i := 88) rfl) rfl rfl ?_
                      refine qr_ishr (n := 162) (dkX12_cheapest (i := 89) rfl) rfl ?_
                      refine qr_iconst (n := 163) 1 (dkX12_cheapest (i := 90) rfl) rfl (by decide) ?_
                      refine qr_iand (n := 164) (dkX12_cheapest (i := 91) rfl) rfl ?_
                      refine qr_iconst (n := 165) 1 (dkX12_cheapest (i := 92) rfl) rfl (by decide) ?_
                      refine qr_j (fun K_7 : qv_St → Option (qv_St × Int32) => ∀ (S_9 : qv_St), VV G Lm X RX12 cX12_cheapest 8 (some .int) 10 qe_m 179 [(0, .ref (G.2.2.1 0)), (1, .int x1), (2, .int x2), (3, .int x3_2), (4, .int x4_2), (5, .int x5_1), (6, .int x6_1), (7, .int x7_1)] [] S_9 (K_7 S_9)) (fun S_9 => ?_) (fun K_7 hK_7 => ?_)
                      · refine qr_iinc (n := 182) (v := 1) (lv2 := [(0, .ref (G.2.2.1 0)), (1, .int x1), (2, .int x2), (3, .int x3_2), (4, .int x4_2), (5, .int x5_1), (6, .int x6_1), (7, .int (x7_1 + 1))]) 7 [1, 2, 3, 4, 5, 6, 7, 0] (dkX12_cheapest (i := 100) rfl) rfl rfl (by decide) (by decide) rfl ?_
                        refine qr_goto (n := 143) (dkX12_cheapest (i := 101) rfl) (by decide) ?_
                        exact hself_2 S_9 (x7_1 + 1)
                      · refine qr_icmp_ne (t := 179) (n := 168) (dkX12_cheapest (i := 93) rfl) (by decide) rfl ?_ ?_
                        · exact hK_7 S_8
                        · refine qr_aload_n (n := 169) 0 (dkX12_cheapest (i := 94) rfl) rfl rfl ?_
                          refine qr_iload (n := 171) 7 (dkX12_cheapest (i := 95) rfl) rfl rfl ?_
                          refine qr_aload_n (n := 172) 0 (dkX12_cheapest (i := 96) rfl) rfl rfl ?_
                          refine qr_iload_n (n := 173) 1 (dkX12_cheapest (i := 97) rfl) rfl rfl ?_
                          refine qr_cvi (n := 176) 0 [.int x1] (dkX12_cheapest (i := 98) rfl) rfl kvX12_368 rfl rfl (Nat.le_of_ble_eq_true rfl) rfl rfl lmO rfl (wX12_longFor G S_8 x1) (fun r_5 => ?_)
                          refine qr_cvu (n := 179) 0 [.int x7_1, .int r_5] (dkX12_cheapest (i := 99) rfl) rfl kvX12_405 rfl rfl (Nat.le_of_ble_eq_true rfl) rfl rfl lmO rfl (wX12_pays G S_8 x7_1 r_5) (fun S_10 => ?_)
                          exact hK_7 S_10
                · refine qr_if_lt (t := 136) (n := 126) (dkX12_cheapest (i := 71) rfl) (by decide) rfl ?_ ?_
                  · exact hK_5
                  · refine qr_iload (n := 128) 6 (dkX12_cheapest (i := 72) rfl) rfl rfl ?_
                    refine qr_iload (n := 130) 4 (dkX12_cheapest (i := 73) rfl) rfl rfl ?_
                    refine qr_icmp_lt (t := 136) (n := 133) (dkX12_cheapest (i := 74) rfl) (by decide) rfl ?_ ?_
                    · exact hK_5
                    · refine qr_goto (n := 219) (dkX12_cheapest (i := 75) rfl) (by decide) ?_
                      refine qr_sub [0, 1, 2, 3, 4, 5] rfl ?_
                      exact hK_4 S_2 x3_2 x4_2
            · refine qr_lp2 (fun (x6_2 : Int32) (x7_2 : Int32) => [(0, .ref (G.2.2.1 0)), (1, .int x1), (2, .int x2), (3, .int x3_2), (4, .int x4_2), (5, .int x5_1), (6, .int x6_2), (7, .int x7_2)]) (fun (x6_2 : Int32) (x7_2 : Int32) => S_2) (fun self_3 hself_3 x6_2 x7_2 => ?_) qv_N 0 0
              refine qr_iload (n := 67) 7 (dkX12_cheapest (i := 38) rfl) rfl rfl ?_
              refine qr_aload_n (n := 68) 0 (dkX12_cheapest (i := 39) rfl) rfl rfl ?_
              refine qr_geta (n := 71) 0 22 9 (dkX12_cheapest (i := 40) rfl) rfl lmO rfl gnX12 (Nat.le_of_ble_eq_true rfl) kfX12_43 rfl ?_
              refine qr_aload_n (n := 72) 0 (dkX12_cheapest (i := 41) rfl) rfl rfl ?_
              refine qr_geti (n := 75) 0 18 (dkX12_cheapest (i := 42) rfl) rfl lmO rfl gnX12 (Nat.le_of_ble_eq_true rfl) kfX12_242 rfl ?_
              refine qr_iald (n := 76) 9 2 (dkX12_cheapest (i := 43) rfl) rfl lmA_9 ?_
              refine qr_icmp_ge (t := 122) (n := 79) (dkX12_cheapest (i := 44) rfl) (by decide) rfl ?_ ?_
              · refine qr_sub [0, 1, 2, 3, 4, 5, 6] rfl ?_
                exact hK_3 x6_2
              · refine qr_iload (n := 81) 5 (dkX12_cheapest (i := 45) rfl) rfl rfl ?_
                refine qr_iload (n := 83) 7 (dkX12_cheapest (i := 46) rfl) rfl rfl ?_
                refine qr_ishr (n := 84) (dkX12_cheapest (i := 47) rfl) rfl ?_
                refine qr_iconst (n := 85) 1 (dkX12_cheapest (i := 48) rfl) rfl (by decide) ?_
                refine qr_iand (n := 86) (dkX12_cheapest (i := 49) rfl) rfl ?_
                refine qr_iconst (n := 87) 1 (dkX12_cheapest (i := 50) rfl) rfl (by decide) ?_
                refine qr_j (fun K_8 : Int32 → Option (qv_St × Int32) => ∀ (x6_3 : Int32), VV G Lm X RX12 cX12_cheapest 8 (some .int) 10 qe_m 116 [(0, .ref (G.2.2.1 0)), (1, .int x1), (2, .int x2), (3, .int x3_2), (4, .int x4_2), (5, .int x5_1), (6, .int x6_3), (7, .int x7_2)] [] S_2 (K_8 x6_3)) (fun x6_3 => ?_) (fun K_8 hK_8 => ?_)
                · refine qr_iinc (n := 119) (v := 1) (lv2 := [(0, .ref (G.2.2.1 0)), (1, .int x1), (2, .int x2), (3, .int x3_2), (4, .int x4_2), (5, .int x5_1), (6, .int x6_3), (7, .int (x7_2 + 1))]) 7 [1, 2, 3, 4, 5, 6, 7, 0] (dkX12_cheapest (i := 68) rfl) rfl rfl (by decide) (by decide) rfl ?_
                  refine qr_goto (n := 65) (dkX12_cheapest (i := 69) rfl) (by decide) ?_
                  exact hself_3 x6_3 (x7_2 + 1)
                · refine qr_icmp_ne (t := 116) (n := 90) (dkX12_cheapest (i := 51) rfl) (by decide) rfl ?_ ?_
                  · exact hK_8 x6_2
                  · refine qr_iload (n := 92) 6 (dkX12_cheapest (i := 52) rfl) rfl rfl ?_
                    refine qr_aload_n (n := 93) 0 (dkX12_cheapest (i := 53) rfl) rfl rfl ?_
                    refine qr_iload_n (n := 94) 1 (dkX12_cheapest (i := 54) rfl) rfl rfl ?_
                    refine qr_cvi (n := 97) 0 [.int x1] (dkX12_cheapest (i := 55) rfl) rfl kvX12_368 rfl rfl (Nat.le_of_ble_eq_true rfl) rfl rfl lmO rfl (wX12_longFor G S_2 x1) (fun r_6 => ?_)
                    refine qr_aload_n (n := 98) 0 (dkX12_cheapest (i := 56) rfl) rfl rfl ?_
                    refine qr_geta (n := 101) 0 28 15 (dkX12_cheapest (i := 57) rfl) rfl lmO rfl gnX12 (Nat.le_of_ble_eq_true rfl) kfX12_62 rfl ?_
                    refine qr_bipush (n := 103) 8 (dkX12_cheapest (i := 58) rfl) rfl (by decide) ?_
                    refine qr_aload_n (n := 104) 0 (dkX12_cheapest (i := 59) rfl) rfl rfl ?_
                    refine qr_geti (n := 107) 0 18 (dkX12_cheapest (i := 60) rfl) rfl lmO rfl gnX12 (Nat.le_of_ble_eq_true rfl) kfX12_242 rfl ?_
                    refine qr_imul (n := 108) (dkX12_cheapest (i := 61) rfl) rfl ?_
                    refine qr_iload (n := 110) 7 (dkX12_cheapest (i := 62) rfl) rfl rfl ?_
                    refine qr_iadd (n := 111) (dkX12_cheapest (i := 63) rfl) rfl ?_
                    refine qr_iald (n := 112) 15 16 (dkX12_cheapest (i := 64) rfl) rfl lmA_15 ?_
                    refine qr_imul (n := 113) (dkX12_cheapest (i := 65) rfl) rfl ?_
                    refine qr_iadd (n := 114) (dkX12_cheapest (i := 66) rfl) rfl ?_
                    refine qr_b (α := Int32) (x6_2 + (r_6 * (S_2.1 15 (Int32.toNatClampNeg ((8 * (S_2.1 0 18)) + x7_2))))) (lvf := fun _ => [(0, .ref (G.2.2.1 0)), (1, .int x1), (2, .int x2), (3, .int x3_2), (4, .int x4_2), (5, .int x5_1), (6, .int x6_2), (7, .int x7_2)]) (stf := fun z => .int z :: []) (Sf := fun _ => S_2) (fun x6_4 => ?_)
                    refine qr_istore (n := 116) (lv2 := [(0, .ref (G.2.2.1 0)), (1, .int x1), (2, .int x2), (3, .int x3_2), (4, .int x4_2), (5, .int x5_1), (6, .int x6_4), (7, .int x7_2)]) [1, 2, 3, 4, 5, 6, 0, 7] (dkX12_cheapest (i := 67) rfl) rfl (by decide) rfl ?_
                    exact hK_8 x6_4
      · refine qr_bipush (n := 33) (-2) (dkX12_cheapest (i := 17) rfl) rfl (by decide) ?_
        exact qr_iret (dkX12_cheapest (i := 18) rfl) rfl rfl
    · refine qr_iconst (n := 18) (-1) (dkX12_cheapest (i := 9) rfl) rfl (by decide) ?_
      exact qr_iret (dkX12_cheapest (i := 10) rfl) rfl rfl
def tbX12_breakOff : List (Nat × Instr × Nat) := [(0, .aload_n 0, 1), (1, .iload_n 1, 1), (2, .invokevirtual 390, 3), (5, .ifCond .eq 14, 3), (8, .iload_n 2, 1), (9, .iconst 0, 1), (10, .sipush 300, 3), (13, .invokestatic 319, 3), (16, .ifCond .ne 5, 3), (19, .iconst (-1), 1), (20, .ireturn, 1), (21, .aload_n 0, 1), (22, .getfield 65, 3), (25, .aload_n 0, 1), (26, .getfield 242, 3), (29, .iaload, 1), (30, .ifCond .ne 6, 3), (33, .bipush (-2), 2), (35, .ireturn, 1), (36, .aload_n 0, 1), (37, .invokevirtual 384, 3), (40, .aload_n 0, 1), (41, .aload_n 0, 1), (42, .getfield 128, 3), (45, .iconst 1, 1), (46, .iaload, 1), (47, .iload_n 2, 1), (48, .aload_n 0, 1), (49, .iload_n 1, 1), (50, .invokevirtual 368, 3), (53, .iadd, 1), (54, .invokevirtual 396, 3), (57, .aload_n 0, 1), (58, .iload_n 1, 1), (59, .iload_n 2, 1), (60, .invokevirtual 374, 3), (63, .istore_n 3, 1), (64, .iconst 0, 1), (65, .istore 4, 2), (67, .iload 4, 2), (69, .aload_n 0, 1), (70, .iload_n 1, 1), (71, .invokevirtual 368, 3), (74, .if_icmp .ge 21, 3), (77, .iload_n 3, 1), (78, .iload 4, 2), (80, .ishr, 1), (81, .iconst 1, 1), (82, .iand, 1), (83, .ifCond .ne 6, 3), (86, .iload 4, 2), (88, .ireturn, 1), (89, .iinc 4 1, 3), (92, .goto (-25), 3), (95, .bipush (-2), 2), (97, .ireturn, 1)]
set_option maxRecDepth 20000 in
theorem daX12_breakOff : ∀ x ∈ tbX12_breakOff, decode cX12_breakOff x.1 = .ok x.2 := by decide +kernel
theorem dkX12_breakOff {i pc n : Nat} {ins : Instr} (h : tbX12_breakOff[i]? = some (pc, ins, n)) : decode cX12_breakOff pc = .ok (ins, n) := daX12_breakOff (pc, ins, n) (List.mem_of_getElem? h)
def fX12_breakOff (S0 : qv_St) (x1 : Int32) (x2 : Int32) : Option (qv_St × Int32) :=
  (fX12_isShot S0 x1).bind fun r_1 =>
  if r_1 = 0 then
    some (S0, (-1))
  else
    (fX12_in x2 0 300).bind fun r_2 =>
    if r_2 = 0 then
      some (S0, (-1))
    else
      qv_ck (S0.1 0 18) 2 <|
      if (S0.1 16 (Int32.toNatClampNeg (S0.1 0 18))) = 0 then
        some (S0, (-2))
      else
        (fX12_copies S0).bind fun S_1 =>
        qv_ck 1 32 <|
        (fX12_longFor S_1 x1).bind fun r_3 =>
        (fX12_fillsLoud S_1 (S_1.1 37 (Int32.toNatClampNeg 1)) (x2 + r_3)).bind fun S_2 =>
        qv_cm (fX12_clearFrom S_2 x1 x2) fun S_3 r_4 =>
        qv_lp1 qv_N (fun self_1 (x4_1 : Int32) =>
          (fX12_longFor S_3 x1).bind fun r_5 =>
          if r_5 ≤ x4_1 then
            some (S_3, (-2))
          else
            if ((r_4 >>> (x4_1 &&& 31)) &&& 1) = 0 then
              some (S_3, x4_1)
            else
              self_1 (x4_1 + 1)) 0
set_option maxRecDepth 20000 in
set_option maxHeartbeats 4000000 in
theorem wX12_breakOff (G : qv_GT) (S0 : qv_St) (x1 : Int32) (x2 : Int32) : ∀ r, fX12_breakOff S0 x1 x2 = some r → Cn G Lm yX12_breakOff cX12_breakOff 5 (some .int) 10 [.ref (G.2.2.1 0), .int x1, .int x2] S0 (qe_m r) := by
  refine cn_of (own := RX12) (emb := qe_m) (lv := [(0, .ref (G.2.2.1 0)), (1, .int x1), (2, .int x2)]) rfl rfl (Nat.le_of_ble_eq_true rfl) rfl (fun X => ?_)
  unfold fX12_breakOff
  refine qr_aload_n (n := 1) 0 (dkX12_breakOff (i := 0) rfl) rfl rfl ?_
  refine qr_iload_n (n := 2) 1 (dkX12_breakOff (i := 1) rfl) rfl rfl ?_
  refine qr_cvi (n := 5) 0 [.int x1] (dkX12_breakOff (i := 2) rfl) rfl kvX12_390 rfl rfl (Nat.le_of_ble_eq_true rfl) rfl rfl lmO rfl (wX12_isShot G S0 x1) (fun r_1 => ?_)
  refine qr_if_eq (t := 19) (n := 8) (dkX12_breakOff (i := 3) rfl) (by decide) rfl ?_ ?_
  · refine qr_iconst (n := 20) (-1) (dkX12_breakOff (i := 9) rfl) rfl (by decide) ?_
    exact qr_iret (dkX12_breakOff (i := 10) rfl) rfl rfl
  · refine qr_iload_n (n := 9) 2 (dkX12_breakOff (i := 4) rfl) rfl rfl ?_
    refine qr_iconst (n := 10) 0 (dkX12_breakOff (i := 5) rfl) rfl (by decide) ?_
    refine qr_sipush (n := 13) 300 (dkX12_breakOff (i := 6) rfl) rfl (by decide) ?_
    refine qr_csi (n := 16) [.int x2, .int 0, .int 300] (dkX12_breakOff (i := 7) rfl) rfl kvX12_319 rfl rfl (Nat.le_of_ble_eq_true rfl) rfl rfl (wX12_in G S0 x2 0 300) (fun r_2 => ?_)
    refine qr_if_ne (t := 21) (n := 19) (dkX12_breakOff (i := 8) rfl) (by decide) rfl ?_ ?_
    · refine qr_aload_n (n := 22) 0 (dkX12_breakOff (i := 11) rfl) rfl rfl ?_
      refine qr_geta (n := 25) 0 29 16 (dkX12_breakOff (i := 12) rfl) rfl lmO rfl gnX12 (Nat.le_of_ble_eq_true rfl) kfX12_65 rfl ?_
      refine qr_aload_n (n := 26) 0 (dkX12_breakOff (i := 13) rfl) rfl rfl ?_
      refine qr_geti (n := 29) 0 18 (dkX12_breakOff (i := 14) rfl) rfl lmO rfl gnX12 (Nat.le_of_ble_eq_true rfl) kfX12_242 rfl ?_
      refine qr_iald (n := 30) 16 2 (dkX12_breakOff (i := 15) rfl) rfl lmA_16 ?_
      refine qr_if_ne (t := 36) (n := 33) (dkX12_breakOff (i := 16) rfl) (by decide) rfl ?_ ?_
      · refine qr_aload_n (n := 37) 0 (dkX12_breakOff (i := 19) rfl) rfl rfl ?_
        refine qr_cvu (n := 40) 0 [] (dkX12_breakOff (i := 20) rfl) rfl kvX12_384 rfl rfl (Nat.le_of_ble_eq_true rfl) rfl rfl lmO rfl (wX12_copies G S0) (fun S_1 => ?_)
        refine qr_aload_n (n := 41) 0 (dkX12_breakOff (i := 21) rfl) rfl rfl ?_
        refine qr_aload_n (n := 42) 0 (dkX12_breakOff (i := 22) rfl) rfl rfl ?_
        refine qr_geta (n := 45) 0 54 37 (dkX12_breakOff (i := 23) rfl) rfl lmO rfl gnX12 (Nat.le_of_ble_eq_true rfl) kfX12_128 rfl ?_
        refine qr_iconst (n := 46) 1 (dkX12_breakOff (i := 24) rfl) rfl (by decide) ?_
        refine qr_iald (n := 47) 37 32 (dkX12_breakOff (i := 25) rfl) rfl lmA_37 ?_
        refine qr_iload_n (n := 48) 2 (dkX12_breakOff (i := 26) rfl) rfl rfl ?_
        refine qr_aload_n (n := 49) 0 (dkX12_breakOff (i := 27) rfl) rfl rfl ?_
        refine qr_iload_n (n := 50) 1 (dkX12_breakOff (i := 28) rfl) rfl rfl ?_
        refine qr_cvi (n := 53) 0 [.int x1] (dkX12_breakOff (i := 29) rfl) rfl kvX12_368 rfl rfl (Nat.le_of_ble_eq_true rfl) rfl rfl lmO rfl (wX12_longFor G S_1 x1) (fun r_3 => ?_)
        refine qr_iadd (n := 54) (dkX12_breakOff (i := 30) rfl) rfl ?_
        refine qr_cvu (n := 57) 0 [.int (S_1.1 37 (Int32.toNatClampNeg 1)), .int (x2 + r_3)] (dkX12_breakOff (i := 31) rfl) rfl kvX12_396 rfl rfl (Nat.le_of_ble_eq_true rfl) rfl rfl lmO rfl (wX12_fillsLoud G S_1 (S_1.1 37 (Int32.toNatClampNeg 1)) (x2 + r_3)) (fun S_2 => ?_)
        refine qr_aload_n (n := 58) 0 (dkX12_breakOff (i := 32) rfl) rfl rfl ?_
        refine qr_iload_n (n := 59) 1 (dkX12_breakOff (i := 33) rfl) rfl rfl ?_
        refine qr_iload_n (n := 60) 2 (dkX12_breakOff (i := 34) rfl) rfl rfl ?_
        refine qr_cvm (n := 63) 0 [.int x1, .int x2] (dkX12_breakOff (i := 35) rfl) rfl kvX12_374 rfl rfl (Nat.le_of_ble_eq_true rfl) rfl rfl lmO rfl (wX12_clearFrom G S_2 x1 x2) (fun S_3 r_4 => ?_)
        refine qr_istore_n (n := 64) (lv2 := [(0, .ref (G.2.2.1 0)), (1, .int x1), (2, .int x2), (3, .int r_4)]) [1, 2, 3, 0] (dkX12_breakOff (i := 36) rfl) rfl rfl (by decide) rfl ?_
        refine qr_iconst (n := 65) 0 (dkX12_breakOff (i := 37) rfl) rfl (by decide) ?_
        refine qr_istore (n := 67) (lv2 := [(0, .ref (G.2.2.1 0)), (1, .int x1), (2, .int x2), (3, .int r_4), (4, .int 0)]) [1, 2, 3, 4, 0] (dkX12_breakOff (i := 38) rfl) rfl (by decide) rfl ?_
        refine qr_sub [0, 1, 3, 4] rfl ?_
        refine qr_lp1 (fun (x4_1 : Int32) => [(0, .ref (G.2.2.1 0)), (1, .int x1), (3, .int r_4), (4, .int x4_1)]) (fun (x4_1 : Int32) => S_3) (fun self_1 hself_1 x4_1 => ?_) qv_N 0
        refine qr_iload (n := 69) 3 (dkX12_breakOff (i := 39) rfl) rfl rfl ?_
        refine qr_aload_n (n := 70) 0 (dkX12_breakOff (i := 40) rfl) rfl rfl ?_
        refine qr_iload_n (n := 71) 1 (dkX12_breakOff (i := 41) rfl) rfl rfl ?_
        refine qr_cvi (n := 74) 0 [.int x1] (dkX12_breakOff (i := 42) rfl) rfl kvX12_368 rfl rfl (Nat.le_of_ble_eq_true rfl) rfl rfl lmO rfl (wX12_longFor G S_3 x1) (fun r_5 => ?_)
        refine qr_icmp_ge (t := 95) (n := 77) (dkX12_breakOff (i := 43) rfl) (by decide) rfl ?_ ?_
        · refine qr_bipush (n := 97) (-2) (dkX12_breakOff (i := 54) rfl) rfl (by decide) ?_
          exact qr_iret (dkX12_breakOff (i := 55) rfl) rfl rfl
        · refine qr_iload_n (n := 78) 2 (dkX12_breakOff (i := 44) rfl) rfl rfl ?_
          refine qr_iload (n := 80) 3 (dkX12_breakOff (i := 45) rfl) rfl rfl ?_
          refine qr_ishr (n := 81) (dkX12_breakOff (i := 46) rfl) rfl ?_
          refine qr_iconst (n := 82) 1 (dkX12_breakOff (i := 47) rfl) rfl (by decide) ?_
          refine qr_iand (n := 83) (dkX12_breakOff (i := 48) rfl) rfl ?_
          refine qr_if_ne (t := 89) (n := 86) (dkX12_breakOff (i := 49) rfl) (by decide) rfl ?_ ?_
          · refine qr_iinc (n := 92) (v := 1) (lv2 := [(0, .ref (G.2.2.1 0)), (1, .int x1), (3, .int r_4), (4, .int (x4_1 + 1))]) 3 [1, 2, 3, 0] (dkX12_breakOff (i := 52) rfl) rfl rfl (by decide) (by decide) rfl ?_
            refine qr_goto (n := 67) (dkX12_breakOff (i := 53) rfl) (by decide) ?_
            exact hself_1 (x4_1 + 1)
          · refine qr_iload (n := 88) 3 (dkX12_breakOff (i := 50) rfl) rfl rfl ?_
            exact qr_iret (dkX12_breakOff (i := 51) rfl) rfl rfl
      · refine qr_bipush (n := 35) (-2) (dkX12_breakOff (i := 17) rfl) rfl (by decide) ?_
        exact qr_iret (dkX12_breakOff (i := 18) rfl) rfl rfl
    · refine qr_iconst (n := 20) (-1) (dkX12_breakOff (i := 9) rfl) rfl (by decide) ?_
      exact qr_iret (dkX12_breakOff (i := 10) rfl) rfl rfl
def tbX12_join : List (Nat × Instr × Nat) := [(0, .aload_n 0, 1), (1, .iload_n 1, 1), (2, .invokevirtual 390, 3), (5, .ifCond .ne 5, 3), (8, .iconst (-1), 1), (9, .ireturn, 1), (10, .aload_n 0, 1), (11, .getfield 65, 3), (14, .aload_n 0, 1), (15, .getfield 242, 3), (18, .iaload, 1), (19, .ifCond .ne 6, 3), (22, .bipush (-2), 2), (24, .ireturn, 1), (25, .aload_n 0, 1), (26, .invokevirtual 384, 3), (29, .aload_n 0, 1), (30, .iload_n 1, 1), (31, .invokevirtual 368, 3), (34, .istore_n 2, 1), (35, .aload_n 0, 1), (36, .aload_n 0, 1), (37, .getfield 128, 3), (40, .iconst 1, 1), (41, .iaload, 1), (42, .bipush 20, 2), (44, .iload_n 2, 1), (45, .imul, 1), (46, .invokevirtual 396, 3), (49, .aload_n 0, 1), (50, .getfield 128, 3), (53, .bipush 12, 2), (55, .iload_n 1, 1), (56, .iadd, 1), (57, .iaload, 1), (58, .istore_n 3, 1), (59, .iconst 0, 1), (60, .istore 4, 2), (62, .iload 4, 2), (64, .bipush 20, 2), (66, .if_icmp .gt 40, 3), (69, .aload_n 0, 1), (70, .iload_n 1, 1), (71, .iload_n 3, 1), (72, .invokevirtual 377, 3), (75, .ifCond .eq 6, 3), (78, .iload 4, 2), (80, .ireturn, 1), (81, .iload 4, 2), (83, .bipush 20, 2), (85, .if_icmp .ge 15, 3), (88, .iload_n 3, 1), (89, .aload_n 0, 1), (90, .iload_n 1, 1), (91, .iload 4, 2), (93, .iload_n 2, 1), (94, .imul, 1), (95, .invokevirtual 374, 3), (98, .ior, 1), (99, .istore_n 3, 1), (100, .iinc 4 1, 3), (103, .goto (-41), 3), (106, .bipush (-2), 2), (108, .ireturn, 1)]
set_option maxRecDepth 20000 in
theorem daX12_join : ∀ x ∈ tbX12_join, decode cX12_join x.1 = .ok x.2 := by decide +kernel
theorem dkX12_join {i pc n : Nat} {ins : Instr} (h : tbX12_join[i]? = some (pc, ins, n)) : decode cX12_join pc = .ok (ins, n) := daX12_join (pc, ins, n) (List.mem_of_getElem? h)
def fX12_join (S0 : qv_St) (x1 : Int32) : Option (qv_St × Int32) :=
  (fX12_isShot S0 x1).bind fun r_1 =>
  if r_1 = 0 then
    some (S0, (-1))
  else
    qv_ck (S0.1 0 18) 2 <|
    if (S0.1 16 (Int32.toNatClampNeg (S0.1 0 18))) = 0 then
      some (S0, (-2))
    else
      (fX12_copies S0).bind fun S_1 =>
      (fX12_longFor S_1 x1).bind fun r_2 =>
      qv_ck 1 32 <|
      (fX12_fillsLoud S_1 (S_1.1 37 (Int32.toNatClampNeg 1)) (20 * r_2)).bind fun S_2 =>
      qv_ck (12 + x1) 32 <|
      qv_b ((S_2.1 37 (Int32.toNatClampNeg (12 + x1))) : Int32) fun x3_1 =>
      qv_lp3 qv_N (fun self_1 (S_3 : qv_St) (x3_2 : Int32) (x4_1 : Int32) =>
        if 20 < x4_1 then
          some (S_3, (-2))
        else
          (fX12_isWhole S_3 x1 x3_2).bind fun r_3 =>
          if r_3 = 0 then
            qv_j (fun (S_4 : qv_St) (x3_3 : Int32) =>
              self_1 S_4 x3_3 (x4_1 + 1)) fun K_1 =>
            if 20 ≤ x4_1 then
              K_1 S_3 x3_2
            else
              qv_cm (fX12_clearFrom S_3 x1 (x4_1 * r_2)) fun S_5 r_4 =>
              qv_b ((x3_2 ||| r_4) : Int32) fun x3_4 =>
              K_1 S_5 x3_4
          else
            some (S_3, x4_1)) S_2 x3_1 0
set_option maxRecDepth 20000 in
set_option maxHeartbeats 4000000 in
theorem wX12_join (G : qv_GT) (S0 : qv_St) (x1 : Int32) : ∀ r, fX12_join S0 x1 = some r → Cn G Lm yX12_join cX12_join 5 (some .int) 10 [.ref (G.2.2.1 0), .int x1] S0 (qe_m r) := by
  refine cn_of (own := RX12) (emb := qe_m) (lv := [(0, .ref (G.2.2.1 0)), (1, .int x1)]) rfl rfl (Nat.le_of_ble_eq_true rfl) rfl (fun X => ?_)
  unfold fX12_join
  refine qr_aload_n (n := 1) 0 (dkX12_join (i := 0) rfl) rfl rfl ?_
  refine qr_iload_n (n := 2) 1 (dkX12_join (i := 1) rfl) rfl rfl ?_
  refine qr_cvi (n := 5) 0 [.int x1] (dkX12_join (i := 2) rfl) rfl kvX12_390 rfl rfl (Nat.le_of_ble_eq_true rfl) rfl rfl lmO rfl (wX12_isShot G S0 x1) (fun r_1 => ?_)
  refine qr_if_ne (t := 10) (n := 8) (dkX12_join (i := 3) rfl) (by decide) rfl ?_ ?_
  · refine qr_aload_n (n := 11) 0 (dkX12_join (i := 6) rfl) rfl rfl ?_
    refine qr_geta (n := 14) 0 29 16 (dkX12_join (i := 7) rfl) rfl lmO rfl gnX12 (Nat.le_of_ble_eq_true rfl) kfX12_65 rfl ?_
    refine qr_aload_n (n := 15) 0 (dkX12_join (i := 8) rfl) rfl rfl ?_
    refine qr_geti (n := 18) 0 18 (dkX12_join (i := 9) rfl) rfl lmO rfl gnX12 (Nat.le_of_ble_eq_true rfl) kfX12_242 rfl ?_
    refine qr_iald (n := 19) 16 2 (dkX12_join (i := 10) rfl) rfl lmA_16 ?_
    refine qr_if_ne (t := 25) (n := 22) (dkX12_join (i := 11) rfl) (by decide) rfl ?_ ?_
    · refine qr_aload_n (n := 26) 0 (dkX12_join (i := 14) rfl) rfl rfl ?_
      refine qr_cvu (n := 29) 0 [] (dkX12_join (i := 15) rfl) rfl kvX12_384 rfl rfl (Nat.le_of_ble_eq_true rfl) rfl rfl lmO rfl (wX12_copies G S0) (fun S_1 => ?_)
      refine qr_aload_n (n := 30) 0 (dkX12_join (i := 16) rfl) rfl rfl ?_
      refine qr_iload_n (n := 31) 1 (dkX12_join (i := 17) rfl) rfl rfl ?_
      refine qr_cvi (n := 34) 0 [.int x1] (dkX12_join (i := 18) rfl) rfl kvX12_368 rfl rfl (Nat.le_of_ble_eq_true rfl) rfl rfl lmO rfl (wX12_longFor G S_1 x1) (fun r_2 => ?_)
      refine qr_istore_n (n := 35) (lv2 := [(0, .ref (G.2.2.1 0)), (1, .int x1), (2, .int r_2)]) [1, 2, 0] (dkX12_join (i := 19) rfl) rfl rfl (by decide) rfl ?_
      refine qr_aload_n (n := 36) 0 (dkX12_join (i := 20) rfl) rfl rfl ?_
      refine qr_aload_n (n := 37) 0 (dkX12_join (i := 21) rfl) rfl rfl ?_
      refine qr_geta (n := 40) 0 54 37 (dkX12_join (i := 22) rfl) rfl lmO rfl gnX12 (Nat.le_of_ble_eq_true rfl) kfX12_128 rfl ?_
      refine qr_iconst (n := 41) 1 (dkX12_join (i := 23) rfl) rfl (by decide) ?_
      refine qr_iald (n := 42) 37 32 (dkX12_join (i := 24) rfl) rfl lmA_37 ?_
      refine qr_bipush (n := 44) 20 (dkX12_join (i := 25) rfl) rfl (by decide) ?_
      refine qr_iload_n (n := 45) 2 (dkX12_join (i := 26) rfl) rfl rfl ?_
      refine qr_imul (n := 46) (dkX12_join (i := 27) rfl) rfl ?_
      refine qr_cvu (n := 49) 0 [.int (S_1.1 37 (Int32.toNatClampNeg 1)), .int (20 * r_2)] (dkX12_join (i := 28) rfl) rfl kvX12_396 rfl rfl (Nat.le_of_ble_eq_true rfl) rfl rfl lmO rfl (wX12_fillsLoud G S_1 (S_1.1 37 (Int32.toNatClampNeg 1)) (20 * r_2)) (fun S_2 => ?_)
      refine qr_aload_n (n := 50) 0 (dkX12_join (i := 29) rfl) rfl rfl ?_
      refine qr_geta (n := 53) 0 54 37 (dkX12_join (i := 30) rfl) rfl lmO rfl gnX12 (Nat.le_of_ble_eq_true rfl) kfX12_128 rfl ?_
      refine qr_bipush (n := 55) 12 (dkX12_join (i := 31) rfl) rfl (by decide) ?_
      refine qr_iload_n (n := 56) 1 (dkX12_join (i := 32) rfl) rfl rfl ?_
      refine qr_iadd (n := 57) (dkX12_join (i := 33) rfl) rfl ?_
      refine qr_iald (n := 58) 37 32 (dkX12_join (i := 34) rfl) rfl lmA_37 ?_
      refine qr_b (α := Int32) (S_2.1 37 (Int32.toNatClampNeg (12 + x1))) (lvf := fun _ => [(0, .ref (G.2.2.1 0)), (1, .int x1), (2, .int r_2)]) (stf := fun z => .int z :: []) (Sf := fun _ => S_2) (fun x3_1 => ?_)
      refine qr_istore_n (n := 59) (lv2 := [(0, .ref (G.2.2.1 0)), (1, .int x1), (2, .int r_2), (3, .int x3_1)]) [1, 2, 3, 0] (dkX12_join (i := 35) rfl) rfl rfl (by decide) rfl ?_
      refine qr_iconst (n := 60) 0 (dkX12_join (i := 36) rfl) rfl (by decide) ?_
      refine qr_istore (n := 62) (lv2 := [(0, .ref (G.2.2.1 0)), (1, .int x1), (2, .int r_2), (3, .int x3_1), (4, .int 0)]) [1, 2, 3, 4, 0] (dkX12_join (i := 37) rfl) rfl (by decide) rfl ?_
      refine qr_lp3 (fun (S_3 : qv_St) (x3_2 : Int32) (x4_1 : Int32) => [(0, .ref (G.2.2.1 0)), (1, .int x1), (2, .int r_2), (3, .int x3_2), (4, .int x4_1)]) (fun (S_3 : qv_St) (x3_2 : Int32) (x4_1 : Int32) => S_3) (fun self_1 hself_1 S_3 x3_2 x4_1 => ?_) qv_N S_2 x3_1 0
      refine qr_iload (n := 64) 4 (dkX12_join (i := 38) rfl) rfl rfl ?_
      refine qr_bipush (n := 66) 20 (dkX12_join (i := 39) rfl) rfl (by decide) ?_
      refine qr_icmp_gt (t := 106) (n := 69) (dkX12_join (i := 40) rfl) (by decide) rfl ?_ ?_
      · refine qr_bipush (n := 108) (-2) (dkX12_join (i := 62) rfl) rfl (by decide) ?_
        exact qr_iret (dkX12_join (i := 63) rfl) rfl rfl
      · refine qr_aload_n (n := 70) 0 (dkX12_join (i := 41) rfl) rfl rfl ?_
        refine qr_iload_n (n := 71) 1 (dkX12_join (i := 42) rfl) rfl rfl ?_
        refine qr_iload_n (n := 72) 3 (dkX12_join (i := 43) rfl) rfl rfl ?_
        refine qr_cvi (n := 75) 0 [.int x1, .int x3_2] (dkX12_join (i := 44) rfl) rfl kvX12_377 rfl rfl (Nat.le_of_ble_eq_true rfl) rfl rfl lmO rfl (wX12_isWhole G S_3 x1 x3_2) (fun r_3 => ?_)
        refine qr_if_eq (t := 81) (n := 78) (dkX12_join (i := 45) rfl) (by decide) rfl ?_ ?_
        · refine qr_iload (n := 83) 4 (dkX12_join (i := 48) rfl) rfl rfl ?_
          refine qr_bipush (n := 85) 20 (dkX12_join (i := 49) rfl) rfl (by decide) ?_
          refine qr_j (fun K_1 : qv_St → Int32 → Option (qv_St × Int32) => ∀ (S_4 : qv_St) (x3_3 : Int32), VV G Lm X RX12 cX12_join 5 (some .int) 10 qe_m 100 [(0, .ref (G.2.2.1 0)), (1, .int x1), (2, .int r_2), (3, .int x3_3), (4, .int x4_1)] [] S_4 (K_1 S_4 x3_3)) (fun S_4 x3_3 => ?_) (fun K_1 hK_1 => ?_)
          · refine qr_iinc (n := 103) (v := 1) (lv2 := [(0, .ref (G.2.2.1 0)), (1, .int x1), (2, .int r_2), (3, .int x3_3), (4, .int (x4_1 + 1))]) 4 [1, 2, 3, 4, 0] (dkX12_join (i := 60) rfl) rfl rfl (by decide) (by decide) rfl ?_
            refine qr_goto (n := 62) (dkX12_join (i := 61) rfl) (by decide) ?_
            exact hself_1 S_4 x3_3 (x4_1 + 1)
          · refine qr_icmp_ge (t := 100) (n := 88) (dkX12_join (i := 50) rfl) (by decide) rfl ?_ ?_
            · exact hK_1 S_3 x3_2
            · refine qr_iload_n (n := 89) 3 (dkX12_join (i := 51) rfl) rfl rfl ?_
              refine qr_aload_n (n := 90) 0 (dkX12_join (i := 52) rfl) rfl rfl ?_
              refine qr_iload_n (n := 91) 1 (dkX12_join (i := 53) rfl) rfl rfl ?_
              refine qr_iload (n := 93) 4 (dkX12_join (i := 54) rfl) rfl rfl ?_
              refine qr_iload_n (n := 94) 2 (dkX12_join (i := 55) rfl) rfl rfl ?_
              refine qr_imul (n := 95) (dkX12_join (i := 56) rfl) rfl ?_
              refine qr_cvm (n := 98) 0 [.int x1, .int (x4_1 * r_2)] (dkX12_join (i := 57) rfl) rfl kvX12_374 rfl rfl (Nat.le_of_ble_eq_true rfl) rfl rfl lmO rfl (wX12_clearFrom G S_3 x1 (x4_1 * r_2)) (fun S_5 r_4 => ?_)
              refine qr_ior (n := 99) (dkX12_join (i := 58) rfl) rfl ?_
              refine qr_b (α := Int32) (x3_2 ||| r_4) (lvf := fun _ => [(0, .ref (G.2.2.1 0)), (1, .int x1), (2, .int r_2), (3, .int x3_2), (4, .int x4_1)]) (stf := fun z => .int z :: []) (Sf := fun _ => S_5) (fun x3_4 => ?_)
              refine qr_istore_n (n := 100) (lv2 := [(0, .ref (G.2.2.1 0)), (1, .int x1), (2, .int r_2), (3, .int x3_4), (4, .int x4_1)]) [1, 2, 3, 0, 4] (dkX12_join (i := 59) rfl) rfl rfl (by decide) rfl ?_
              exact hK_1 S_5 x3_4
        · refine qr_iload (n := 80) 4 (dkX12_join (i := 46) rfl) rfl rfl ?_
          exact qr_iret (dkX12_join (i := 47) rfl) rfl rfl
    · refine qr_bipush (n := 24) (-2) (dkX12_join (i := 12) rfl) rfl (by decide) ?_
      exact qr_iret (dkX12_join (i := 13) rfl) rfl rfl
  · refine qr_iconst (n := 9) (-1) (dkX12_join (i := 4) rfl) rfl (by decide) ?_
    exact qr_iret (dkX12_join (i := 5) rfl) rfl rfl
def tbX12_odds : List (Nat × Instr × Nat) := [(0, .aload_n 0, 1), (1, .iload_n 1, 1), (2, .invokevirtual 390, 3), (5, .ifCond .eq 24, 3), (8, .iload_n 2, 1), (9, .iconst 0, 1), (10, .sipush 300, 3), (13, .invokestatic 319, 3), (16, .ifCond .eq 13, 3), (19, .iload_n 3, 1), (20, .iconst 1, 1), (21, .bipush 20, 2), (23, .invokestatic 319, 3), (26, .ifCond .ne 5, 3), (29, .iconst (-1), 1), (30, .ireturn, 1), (31, .aload_n 0, 1), (32, .getfield 65, 3), (35, .aload_n 0, 1), (36, .getfield 242, 3), (39, .iaload, 1), (40, .ifCond .ne 5, 3), (43, .iconst 0, 1), (44, .ireturn, 1), (45, .iconst 0, 1), (46, .istore 4, 2), (48, .iconst 0, 1), (49, .istore 5, 2), (51, .iload 5, 2), (53, .iload_n 3, 1), (54, .if_icmp .ge 83, 3), (57, .aload_n 0, 1), (58, .invokevirtual 384, 3), (61, .aload_n 0, 1), (62, .dup, 1), (63, .getfield 323, 3), (66, .iload 5, 2), (68, .iadd, 1), (69, .putfield 323, 3), (72, .iload_n 2, 1), (73, .istore 6, 2), (75, .iload 6, 2), (77, .iload_n 2, 1), (78, .aload_n 0, 1), (79, .iload_n 1, 1), (80, .invokevirtual 368, 3), (83, .iadd, 1), (84, .if_icmp .ge 35, 3), (87, .aload_n 0, 1), (88, .getfield 131, 3), (91, .iload 6, 2), (93, .aload_n 0, 1), (94, .aload_n 0, 1), (95, .getfield 128, 3), (98, .iconst 1, 1), (99, .iaload, 1), (100, .aload_n 0, 1), (101, .getfield 128, 3), (104, .iconst 0, 1), (105, .iaload, 1), (106, .iload 6, 2), (108, .iadd, 1), (109, .invokevirtual 365, 3), (112, .iastore, 1), (113, .iinc 6 1, 3), (116, .goto (-41), 3), (119, .aload_n 0, 1), (120, .iload_n 1, 1), (121, .iload_n 2, 1), (122, .invokevirtual 420, 3), (125, .ifCond .eq 6, 3), (128, .iinc 4 1, 3), (131, .iinc 5 1, 3), (134, .goto (-83), 3), (137, .iload 4, 2), (139, .ireturn, 1)]
set_option maxRecDepth 20000 in
theorem daX12_odds : ∀ x ∈ tbX12_odds, decode cX12_odds x.1 = .ok x.2 := by decide +kernel
theorem dkX12_odds {i pc n : Nat} {ins : Instr} (h : tbX12_odds[i]? = some (pc, ins, n)) : decode cX12_odds pc = .ok (ins, n) := daX12_odds (pc, ins, n) (List.mem_of_getElem? h)
def fX12_odds (S0 : qv_St) (x1 : Int32) (x2 : Int32) (x3 : Int32) : Option (qv_St × Int32) :=
  (fX12_isShot S0 x1).bind fun r_1 =>
  if r_1 = 0 then
    some (S0, (-1))
  else
    (fX12_in x2 0 300).bind fun r_2 =>
    if r_2 = 0 then
      some (S0, (-1))
    else
      (fX12_in x3 1 20).bind fun r_3 =>
      if r_3 = 0 then
        some (S0, (-1))
      else
        qv_ck (S0.1 0 18) 2 <|
        if (S0.1 16 (Int32.toNatClampNeg (S0.1 0 18))) = 0 then
          some (S0, 0)
        else
          qv_lp3 qv_N (fun self_1 (S_1 : qv_St) (x4_1 : Int32) (x5_1 : Int32) =>
            if x3 ≤ x5_1 then
              some (S_1, x4_1)
            else
              (fX12_copies S_1).bind fun S_2 =>
              qv_b (qv_si S_2 0 55 ((S_2.1 0 55) + x5_1)) fun S_3 =>
              qv_j (fun (S_4 : qv_St) =>
                qv_cm (fX12_isGood S_4 x1 x2) fun S_5 r_4 =>
                qv_j (fun (x4_2 : Int32) =>
                  self_1 S_5 x4_2 (x5_1 + 1)) fun K_2 =>
                if r_4 = 0 then
                  K_2 x4_1
                else
                  K_2 (x4_1 + 1)) fun K_1 =>
              qv_lp2 qv_N (fun self_2 (S_6 : qv_St) (x6_1 : Int32) =>
                (fX12_longFor S_6 x1).bind fun r_5 =>
                if (x2 + r_5) ≤ x6_1 then
                  K_1 S_6
                else
                  qv_ck 1 32 <|
                  qv_ck 0 32 <|
                  qv_cm (fX12_loudIn S_6 (S_6.1 37 (Int32.toNatClampNeg 1)) ((S_6.1 37 (Int32.toNatClampNeg 0)) + x6_1)) fun S_7 r_6 =>
                  qv_ck x6_1 1620 <| qv_b (qv_si S_7 38 (Int32.toNatClampNeg x6_1) r_6) fun S_8 =>
                  self_2 S_8 (x6_1 + 1)) S_3 x2) S0 0 0
set_option maxRecDepth 20000 in
set_option maxHeartbeats 4000000 in
theorem wX12_odds (G : qv_GT) (S0 : qv_St) (x1 : Int32) (x2 : Int32) (x3 : Int32) : ∀ r, fX12_odds S0 x1 x2 x3 = some r → Cn G Lm yX12_odds cX12_odds 7 (some .int) 9 [.ref (G.2.2.1 0), .int x1, .int x2, .int x3] S0 (qe_m r) := by
  refine cn_of (own := RX12) (emb := qe_m) (lv := [(0, .ref (G.2.2.1 0)), (1, .int x1), (2, .int x2), (3, .int x3)]) rfl rfl (Nat.le_of_ble_eq_true rfl) rfl (fun X => ?_)
  unfold fX12_odds
  refine qr_aload_n (n := 1) 0 (dkX12_odds (i := 0) rfl) rfl rfl ?_
  refine qr_iload_n (n := 2) 1 (dkX12_odds (i := 1) rfl) rfl rfl ?_
  refine qr_cvi (n := 5) 0 [.int x1] (dkX12_odds (i := 2) rfl) rfl kvX12_390 rfl rfl (Nat.le_of_ble_eq_true rfl) rfl rfl lmO rfl (wX12_isShot G S0 x1) (fun r_1 => ?_)
  refine qr_if_eq (t := 29) (n := 8) (dkX12_odds (i := 3) rfl) (by decide) rfl ?_ ?_
  · refine qr_iconst (n := 30) (-1) (dkX12_odds (i := 14) rfl) rfl (by decide) ?_
    exact qr_iret (dkX12_odds (i := 15) rfl) rfl rfl
  · refine qr_iload_n (n := 9) 2 (dkX12_odds (i := 4) rfl) rfl rfl ?_
    refine qr_iconst (n := 10) 0 (dkX12_odds (i := 5) rfl) rfl (by decide) ?_
    refine qr_sipush (n := 13) 300 (dkX12_odds (i := 6) rfl) rfl (by decide) ?_
    refine qr_csi (n := 16) [.int x2, .int 0, .int 300] (dkX12_odds (i := 7) rfl) rfl kvX12_319 rfl rfl (Nat.le_of_ble_eq_true rfl) rfl rfl (wX12_in G S0 x2 0 300) (fun r_2 => ?_)
    refine qr_if_eq (t := 29) (n := 19) (dkX12_odds (i := 8) rfl) (by decide) rfl ?_ ?_
    · refine qr_iconst (n := 30) (-1) (dkX12_odds (i := 14) rfl) rfl (by decide) ?_
      exact qr_iret (dkX12_odds (i := 15) rfl) rfl rfl
    · refine qr_iload_n (n := 20) 3 (dkX12_odds (i := 9) rfl) rfl rfl ?_
      refine qr_iconst (n := 21) 1 (dkX12_odds (i := 10) rfl) rfl (by decide) ?_
      refine qr_bipush (n := 23) 20 (dkX12_odds (i := 11) rfl) rfl (by decide) ?_
      refine qr_csi (n := 26) [.int x3, .int 1, .int 20] (dkX12_odds (i := 12) rfl) rfl kvX12_319 rfl rfl (Nat.le_of_ble_eq_true rfl) rfl rfl (wX12_in G S0 x3 1 20) (fun r_3 => ?_)
      refine qr_if_ne (t := 31) (n := 29) (dkX12_odds (i := 13) rfl) (by decide) rfl ?_ ?_
      · refine qr_aload_n (n := 32) 0 (dkX12_odds (i := 16) rfl) rfl rfl ?_
        refine qr_geta (n := 35) 0 29 16 (dkX12_odds (i := 17) rfl) rfl lmO rfl gnX12 (Nat.le_of_ble_eq_true rfl) kfX12_65 rfl ?_
        refine qr_aload_n (n := 36) 0 (dkX12_odds (i := 18) rfl) rfl rfl ?_
        refine qr_geti (n := 39) 0 18 (dkX12_odds (i := 19) rfl) rfl lmO rfl gnX12 (Nat.le_of_ble_eq_true rfl) kfX12_242 rfl ?_
        refine qr_iald (n := 40) 16 2 (dkX12_odds (i := 20) rfl) rfl lmA_16 ?_
        refine qr_if_ne (t := 45) (n := 43) (dkX12_odds (i := 21) rfl) (by decide) rfl ?_ ?_
        · refine qr_iconst (n := 46) 0 (dkX12_odds (i := 24) rfl) rfl (by decide) ?_
          refine qr_istore (n := 48) (lv2 := [(0, .ref (G.2.2.1 0)), (1, .int x1), (2, .int x2), (3, .int x3), (4, .int 0)]) [1, 2, 3, 4, 0] (dkX12_odds (i := 25) rfl) rfl (by decide) rfl ?_
          refine qr_iconst (n := 49) 0 (dkX12_odds (i := 26) rfl) rfl (by decide) ?_
          refine qr_istore (n := 51) (lv2 := [(0, .ref (G.2.2.1 0)), (1, .int x1), (2, .int x2), (3, .int x3), (4, .int 0), (5, .int 0)]) [1, 2, 3, 4, 5, 0] (dkX12_odds (i := 27) rfl) rfl (by decide) rfl ?_
          refine qr_lp3 (fun (S_1 : qv_St) (x4_1 : Int32) (x5_1 : Int32) => [(0, .ref (G.2.2.1 0)), (1, .int x1), (2, .int x2), (3, .int x3), (4, .int x4_1), (5, .int x5_1)]) (fun (S_1 : qv_St) (x4_1 : Int32) (x5_1 : Int32) => S_1) (fun self_1 hself_1 S_1 x4_1 x5_1 => ?_) qv_N S0 0 0
          refine qr_iload (n := 53) 5 (dkX12_odds (i := 28) rfl) rfl rfl ?_
          refine qr_iload_n (n := 54) 3 (dkX12_odds (i := 29) rfl) rfl rfl ?_
          refine qr_icmp_ge (t := 137) (n := 57) (dkX12_odds (i := 30) rfl) (by decide) rfl ?_ ?_
          · refine qr_iload (n := 139) 4 (dkX12_odds (i := 74) rfl) rfl rfl ?_
            exact qr_iret (dkX12_odds (i := 75) rfl) rfl rfl
          · refine qr_aload_n (n := 58) 0 (dkX12_odds (i := 31) rfl) rfl rfl ?_
            refine qr_cvu (n := 61) 0 [] (dkX12_odds (i := 32) rfl) rfl kvX12_384 rfl rfl (Nat.le_of_ble_eq_true rfl) rfl rfl lmO rfl (wX12_copies G S_1) (fun S_2 => ?_)
            refine qr_aload_n (n := 62) 0 (dkX12_odds (i := 33) rfl) rfl rfl ?_
            refine qr_dup (n := 63) (dkX12_odds (i := 34) rfl) rfl rfl ?_
            refine qr_geti (n := 66) 0 55 (dkX12_odds (i := 35) rfl) rfl lmO rfl gnX12 (Nat.le_of_ble_eq_true rfl) kfX12_323 rfl ?_
            refine qr_iload (n := 68) 5 (dkX12_odds (i := 36) rfl) rfl rfl ?_
            refine qr_iadd (n := 69) (dkX12_odds (i := 37) rfl) rfl ?_
            refine qr_puti (n := 72) 0 55 (dkX12_odds (i := 38) rfl) rfl lmO rfl gnX12 (Nat.le_of_ble_eq_true rfl) kfX12_323 rfl tyX12_ok nmX12 rfl rfl (fun S_3 => ?_)
            refine qr_iload_n (n := 73) 2 (dkX12_odds (i := 39) rfl) rfl rfl ?_
            refine qr_istore (n := 75) (lv2 := [(0, .ref (G.2.2.1 0)), (1, .int x1), (2, .int x2), (3, .int x3), (4, .int x4_1), (5, .int x5_1), (6, .int x2)]) [1, 2, 3, 4, 5, 6, 0] (dkX12_odds (i := 40) rfl) rfl (by decide) rfl ?_
            refine qr_j (fun K_1 : qv_St → Option (qv_St × Int32) => ∀ (S_4 : qv_St), VV G Lm X RX12 cX12_odds 7 (some .int) 9 qe_m 119 [(0, .ref (G.2.2.1 0)), (1, .int x1), (2, .int x2), (3, .int x3), (4, .int x4_1), (5, .int x5_1)] [] S_4 (K_1 S_4)) (fun S_4 => ?_) (fun K_1 hK_1 => ?_)
            · refine qr_aload_n (n := 120) 0 (dkX12_odds (i := 66) rfl) rfl rfl ?_
              refine qr_iload_n (n := 121) 1 (dkX12_odds (i := 67) rfl) rfl rfl ?_
              refine qr_iload_n (n := 122) 2 (dkX12_odds (i := 68) rfl) rfl rfl ?_
              refine qr_cvm (n := 125) 0 [.int x1, .int x2] (dkX12_odds (i := 69) rfl) rfl kvX12_420 rfl rfl (Nat.le_of_ble_eq_true rfl) rfl rfl lmO rfl (wX12_isGood G S_4 x1 x2) (fun S_5 r_4 => ?_)
              refine qr_j (fun K_2 : Int32 → Option (qv_St × Int32) => ∀ (x4_2 : Int32), VV G Lm X RX12 cX12_odds 7 (some .int) 9 qe_m 131 [(0, .ref (G.2.2.1 0)), (1, .int x1), (2, .int x2), (3, .int x3), (4, .int x4_2), (5, .int x5_1)] [] S_5 (K_2 x4_2)) (fun x4_2 => ?_) (fun K_2 hK_2 => ?_)
              · refine qr_iinc (n := 134) (v := 1) (lv2 := [(0, .ref (G.2.2.1 0)), (1, .int x1), (2, .int x2), (3, .int x3), (4, .int x4_2), (5, .int (x5_1 + 1))]) 5 [1, 2, 3, 4, 5, 0] (dkX12_odds (i := 72) rfl) rfl rfl (by decide) (by decide) rfl ?_
                refine qr_goto (n := 51) (dkX12_odds (i := 73) rfl) (by decide) ?_
                exact hself_1 S_5 x4_2 (x5_1 + 1)
              · refine qr_if_eq (t := 131) (n := 128) (dkX12_odds (i := 70) rfl) (by decide) rfl ?_ ?_
                · exact hK_2 x4_1
                · refine qr_iinc (n := 131) (v := 1) (lv2 := [(0, .ref (G.2.2.1 0)), (1, .int x1), (2, .int x2), (3, .int x3), (4, .int (x4_1 + 1)), (5, .int x5_1)]) 4 [1, 2, 3, 4, 0, 5] (dkX12_odds (i := 71) rfl) rfl rfl (by decide) (by decide) rfl ?_
                  exact hK_2 (x4_1 + 1)
            · refine qr_lp2 (fun (S_6 : qv_St) (x6_1 : Int32) => [(0, .ref (G.2.2.1 0)), (1, .int x1), (2, .int x2), (3, .int x3), (4, .int x4_1), (5, .int x5_1), (6, .int x6_1)]) (fun (S_6 : qv_St) (x6_1 : Int32) => S_6) (fun self_2 hself_2 S_6 x6_1 => ?_) qv_N S_3 x2
              refine qr_iload (n := 77) 6 (dkX12_odds (i := 41) rfl) rfl rfl ?_
              refine qr_iload_n (n := 78) 2 (dkX12_odds (i := 42) rfl) rfl rfl ?_
              refine qr_aload_n (n := 79) 0 (dkX12_odds (i := 43) rfl) rfl rfl ?_
              refine qr_iload_n (n := 80) 1 (dkX12_odds (i := 44) rfl) rfl rfl ?_
              refine qr_cvi (n := 83) 0 [.int x1] (dkX12_odds (i := 45) rfl) rfl kvX12_368 rfl rfl (Nat.le_of_ble_eq_true rfl) rfl rfl lmO rfl (wX12_longFor G S_6 x1) (fun r_5 => ?_)
              refine qr_iadd (n := 84) (dkX12_odds (i := 46) rfl) rfl ?_
              refine qr_icmp_ge (t := 119) (n := 87) (dkX12_odds (i := 47) rfl) (by decide) rfl ?_ ?_
              · refine qr_sub [0, 1, 2, 3, 4, 5] rfl ?_
                exact hK_1 S_6
              · refine qr_aload_n (n := 88) 0 (dkX12_odds (i := 48) rfl) rfl rfl ?_
                refine qr_geta (n := 91) 0 56 38 (dkX12_odds (i := 49) rfl) rfl lmO rfl gnX12 (Nat.le_of_ble_eq_true rfl) kfX12_131 rfl ?_
                refine qr_iload (n := 93) 6 (dkX12_odds (i := 50) rfl) rfl rfl ?_
                refine qr_aload_n (n := 94) 0 (dkX12_odds (i := 51) rfl) rfl rfl ?_
                refine qr_aload_n (n := 95) 0 (dkX12_odds (i := 52) rfl) rfl rfl ?_
                refine qr_geta (n := 98) 0 54 37 (dkX12_odds (i := 53) rfl) rfl lmO rfl gnX12 (Nat.le_of_ble_eq_true rfl) kfX12_128 rfl ?_
                refine qr_iconst (n := 99) 1 (dkX12_odds (i := 54) rfl) rfl (by decide) ?_
                refine qr_iald (n := 100) 37 32 (dkX12_odds (i := 55) rfl) rfl lmA_37 ?_
                refine qr_aload_n (n := 101) 0 (dkX12_odds (i := 56) rfl) rfl rfl ?_
                refine qr_geta (n := 104) 0 54 37 (dkX12_odds (i := 57) rfl) rfl lmO rfl gnX12 (Nat.le_of_ble_eq_true rfl) kfX12_128 rfl ?_
                refine qr_iconst (n := 105) 0 (dkX12_odds (i := 58) rfl) rfl (by decide) ?_
                refine qr_iald (n := 106) 37 32 (dkX12_odds (i := 59) rfl) rfl lmA_37 ?_
                refine qr_iload (n := 108) 6 (dkX12_odds (i := 60) rfl) rfl rfl ?_
                refine qr_iadd (n := 109) (dkX12_odds (i := 61) rfl) rfl ?_
                refine qr_cvm (n := 112) 0 [.int (S_6.1 37 (Int32.toNatClampNeg 1)), .int ((S_6.1 37 (Int32.toNatClampNeg 0)) + x6_1)] (dkX12_odds (i := 62) rfl) rfl kvX12_365 rfl rfl (Nat.le_of_ble_eq_true rfl) rfl rfl lmO rfl (wX12_loudIn G S_6 (S_6.1 37 (Int32.toNatClampNeg 1)) ((S_6.1 37 (Int32.toNatClampNeg 0)) + x6_1)) (fun S_7 r_6 => ?_)
                refine qr_iast (n := 113) 38 1620 (dkX12_odds (i := 63) rfl) rfl lmA_38 (fun S_8 => ?_)
                refine qr_iinc (n := 116) (v := 1) (lv2 := [(0, .ref (G.2.2.1 0)), (1, .int x1), (2, .int x2), (3, .int x3), (4, .int x4_1), (5, .int x5_1), (6, .int (x6_1 + 1))]) 6 [1, 2, 3, 4, 5, 6, 0] (dkX12_odds (i := 64) rfl) rfl rfl (by decide) (by decide) rfl ?_
                refine qr_goto (n := 75) (dkX12_odds (i := 65) rfl) (by decide) ?_
                exact hself_2 S_8 (x6_1 + 1)
        · refine qr_iconst (n := 44) 0 (dkX12_odds (i := 22) rfl) rfl (by decide) ?_
          exact qr_iret (dkX12_odds (i := 23) rfl) rfl rfl
      · refine qr_iconst (n := 30) (-1) (dkX12_odds (i := 14) rfl) rfl (by decide) ?_
        exact qr_iret (dkX12_odds (i := 15) rfl) rfl rfl
def tbX12_tell : List (Nat × Instr × Nat) := [(0, .aload_n 0, 1), (1, .getfield 263, 3), (4, .bipush 20, 2), (6, .if_icmp .eq 31, 3), (9, .aload_n 0, 1), (10, .iload_n 1, 1), (11, .invokevirtual 393, 3), (14, .ifCond .eq 23, 3), (17, .iload_n 2, 1), (18, .iconst 0, 1), (19, .bipush 99, 2), (21, .invokestatic 319, 3), (24, .ifCond .eq 13, 3), (27, .iload_n 3, 1), (28, .iconst 0, 1), (29, .bipush 99, 2), (31, .invokestatic 319, 3), (34, .ifCond .ne 5, 3), (37, .iconst (-1), 1), (38, .ireturn, 1), (39, .aload_n 0, 1), (40, .getfield 146, 3), (43, .aload_n 0, 1), (44, .getfield 263, 3), (47, .iload_n 1, 1), (48, .iastore, 1), (49, .aload_n 0, 1), (50, .getfield 149, 3), (53, .aload_n 0, 1), (54, .getfield 263, 3), (57, .iload_n 2, 1), (58, .iastore, 1), (59, .aload_n 0, 1), (60, .getfield 152, 3), (63, .aload_n 0, 1), (64, .getfield 263, 3), (67, .iload_n 3, 1), (68, .iastore, 1), (69, .aload_n 0, 1), (70, .dup, 1), (71, .getfield 263, 3), (74, .iconst 1, 1), (75, .iadd, 1), (76, .putfield 263, 3), (79, .aload_n 0, 1), (80, .getfield 263, 3), (83, .iconst 1, 1), (84, .isub, 1), (85, .ireturn, 1)]
set_option maxRecDepth 20000 in
theorem daX12_tell : ∀ x ∈ tbX12_tell, decode cX12_tell x.1 = .ok x.2 := by decide +kernel
theorem dkX12_tell {i pc n : Nat} {ins : Instr} (h : tbX12_tell[i]? = some (pc, ins, n)) : decode cX12_tell pc = .ok (ins, n) := daX12_tell (pc, ins, n) (List.mem_of_getElem? h)
def fX12_tell (S0 : qv_St) (x1 : Int32) (x2 : Int32) (x3 : Int32) : Option (qv_St × Int32) :=
  if (S0.1 0 65) = 20 then
    some (S0, (-1))
  else
    (fX12_isPlace S0 x1).bind fun r_1 =>
    if r_1 = 0 then
      some (S0, (-1))
    else
      (fX12_in x2 0 99).bind fun r_2 =>
      if r_2 = 0 then
        some (S0, (-1))
      else
        (fX12_in x3 0 99).bind fun r_3 =>
        if r_3 = 0 then
          some (S0, (-1))
        else
          qv_ck (S0.1 0 65) 20 <| qv_b (qv_si S0 43 (Int32.toNatClampNeg (S0.1 0 65)) x1) fun S_1 =>
          qv_ck (S_1.1 0 65) 20 <| qv_b (qv_si S_1 44 (Int32.toNatClampNeg (S_1.1 0 65)) x2) fun S_2 =>
          qv_ck (S_2.1 0 65) 20 <| qv_b (qv_si S_2 45 (Int32.toNatClampNeg (S_2.1 0 65)) x3) fun S_3 =>
          qv_b (qv_si S_3 0 65 ((S_3.1 0 65) + 1)) fun S_4 =>
          some (S_4, ((S_4.1 0 65) - 1))
set_option maxRecDepth 20000 in
set_option maxHeartbeats 4000000 in
theorem wX12_tell (G : qv_GT) (S0 : qv_St) (x1 : Int32) (x2 : Int32) (x3 : Int32) : ∀ r, fX12_tell S0 x1 x2 x3 = some r → Cn G Lm yX12_tell cX12_tell 4 (some .int) 3 [.ref (G.2.2.1 0), .int x1, .int x2, .int x3] S0 (qe_m r) := by
  refine cn_of (own := RX12) (emb := qe_m) (lv := [(0, .ref (G.2.2.1 0)), (1, .int x1), (2, .int x2), (3, .int x3)]) rfl rfl (Nat.le_of_ble_eq_true rfl) rfl (fun X => ?_)
  unfold fX12_tell
  refine qr_aload_n (n := 1) 0 (dkX12_tell (i := 0) rfl) rfl rfl ?_
  refine qr_geti (n := 4) 0 65 (dkX12_tell (i := 1) rfl) rfl lmO rfl gnX12 (Nat.le_of_ble_eq_true rfl) kfX12_263 rfl ?_
  refine qr_bipush (n := 6) 20 (dkX12_tell (i := 2) rfl) rfl (by decide) ?_
  refine qr_icmp_eq (t := 37) (n := 9) (dkX12_tell (i := 3) rfl) (by decide) rfl ?_ ?_
  · refine qr_iconst (n := 38) (-1) (dkX12_tell (i := 18) rfl) rfl (by decide) ?_
    exact qr_iret (dkX12_tell (i := 19) rfl) rfl rfl
  · refine qr_aload_n (n := 10) 0 (dkX12_tell (i := 4) rfl) rfl rfl ?_
    refine qr_iload_n (n := 11) 1 (dkX12_tell (i := 5) rfl) rfl rfl ?_
    refine qr_cvi (n := 14) 0 [.int x1] (dkX12_tell (i := 6) rfl) rfl kvX12_393 rfl rfl (Nat.le_of_ble_eq_true rfl) rfl rfl lmO rfl (wX12_isPlace G S0 x1) (fun r_1 => ?_)
    refine qr_if_eq (t := 37) (n := 17) (dkX12_tell (i := 7) rfl) (by decide) rfl ?_ ?_
    · refine qr_iconst (n := 38) (-1) (dkX12_tell (i := 18) rfl) rfl (by decide) ?_
      exact qr_iret (dkX12_tell (i := 19) rfl) rfl rfl
    · refine qr_iload_n (n := 18) 2 (dkX12_tell (i := 8) rfl) rfl rfl ?_
      refine qr_iconst (n := 19) 0 (dkX12_tell (i := 9) rfl) rfl (by decide) ?_
      refine qr_bipush (n := 21) 99 (dkX12_tell (i := 10) rfl) rfl (by decide) ?_
      refine qr_csi (n := 24) [.int x2, .int 0, .int 99] (dkX12_tell (i := 11) rfl) rfl kvX12_319 rfl rfl (Nat.le_of_ble_eq_true rfl) rfl rfl (wX12_in G S0 x2 0 99) (fun r_2 => ?_)
      refine qr_if_eq (t := 37) (n := 27) (dkX12_tell (i := 12) rfl) (by decide) rfl ?_ ?_
      · refine qr_iconst (n := 38) (-1) (dkX12_tell (i := 18) rfl) rfl (by decide) ?_
        exact qr_iret (dkX12_tell (i := 19) rfl) rfl rfl
      · refine qr_iload_n (n := 28) 3 (dkX12_tell (i := 13) rfl) rfl rfl ?_
        refine qr_iconst (n := 29) 0 (dkX12_tell (i := 14) rfl) rfl (by decide) ?_
        refine qr_bipush (n := 31) 99 (dkX12_tell (i := 15) rfl) rfl (by decide) ?_
        refine qr_csi (n := 34) [.int x3, .int 0, .int 99] (dkX12_tell (i := 16) rfl) rfl kvX12_319 rfl rfl (Nat.le_of_ble_eq_true rfl) rfl rfl (wX12_in G S0 x3 0 99) (fun r_3 => ?_)
        refine qr_if_ne (t := 39) (n := 37) (dkX12_tell (i := 17) rfl) (by decide) rfl ?_ ?_
        · refine qr_aload_n (n := 40) 0 (dkX12_tell (i := 20) rfl) rfl rfl ?_
          refine qr_geta (n := 43) 0 66 43 (dkX12_tell (i := 21) rfl) rfl lmO rfl gnX12 (Nat.le_of_ble_eq_true rfl) kfX12_146 rfl ?_
          refine qr_aload_n (n := 44) 0 (dkX12_tell (i := 22) rfl) rfl rfl ?_
          refine qr_geti (n := 47) 0 65 (dkX12_tell (i := 23) rfl) rfl lmO rfl gnX12 (Nat.le_of_ble_eq_true rfl) kfX12_263 rfl ?_
          refine qr_iload_n (n := 48) 1 (dkX12_tell (i := 24) rfl) rfl rfl ?_
          refine qr_iast (n := 49) 43 20 (dkX12_tell (i := 25) rfl) rfl lmA_43 (fun S_1 => ?_)
          refine qr_aload_n (n := 50) 0 (dkX12_tell (i := 26) rfl) rfl rfl ?_
          refine qr_geta (n := 53) 0 67 44 (dkX12_tell (i := 27) rfl) rfl lmO rfl gnX12 (Nat.le_of_ble_eq_true rfl) kfX12_149 rfl ?_
          refine qr_aload_n (n := 54) 0 (dkX12_tell (i := 28) rfl) rfl rfl ?_
          refine qr_geti (n := 57) 0 65 (dkX12_tell (i := 29) rfl) rfl lmO rfl gnX12 (Nat.le_of_ble_eq_true rfl) kfX12_263 rfl ?_
          refine qr_iload_n (n := 58) 2 (dkX12_tell (i := 30) rfl) rfl rfl ?_
          refine qr_iast (n := 59) 44 20 (dkX12_tell (i := 31) rfl) rfl lmA_44 (fun S_2 => ?_)
          refine qr_aload_n (n := 60) 0 (dkX12_tell (i := 32) rfl) rfl rfl ?_
          refine qr_geta (n := 63) 0 68 45 (dkX12_tell (i := 33) rfl) rfl lmO rfl gnX12 (Nat.le_of_ble_eq_true rfl) kfX12_152 rfl ?_
          refine qr_aload_n (n := 64) 0 (dkX12_tell (i := 34) rfl) rfl rfl ?_
          refine qr_geti (n := 67) 0 65 (dkX12_tell (i := 35) rfl) rfl lmO rfl gnX12 (Nat.le_of_ble_eq_true rfl) kfX12_263 rfl ?_
          refine qr_iload_n (n := 68) 3 (dkX12_tell (i := 36) rfl) rfl rfl ?_
          refine qr_iast (n := 69) 45 20 (dkX12_tell (i := 37) rfl) rfl lmA_45 (fun S_3 => ?_)
          refine qr_aload_n (n := 70) 0 (dkX12_tell (i := 38) rfl) rfl rfl ?_
          refine qr_dup (n := 71) (dkX12_tell (i := 39) rfl) rfl rfl ?_
          refine qr_geti (n := 74) 0 65 (dkX12_tell (i := 40) rfl) rfl lmO rfl gnX12 (Nat.le_of_ble_eq_true rfl) kfX12_263 rfl ?_
          refine qr_iconst (n := 75) 1 (dkX12_tell (i := 41) rfl) rfl (by decide) ?_
          refine qr_iadd (n := 76) (dkX12_tell (i := 42) rfl) rfl ?_
          refine qr_puti (n := 79) 0 65 (dkX12_tell (i := 43) rfl) rfl lmO rfl gnX12 (Nat.le_of_ble_eq_true rfl) kfX12_263 rfl tyX12_ok nmX12 rfl rfl (fun S_4 => ?_)
          refine qr_aload_n (n := 80) 0 (dkX12_tell (i := 44) rfl) rfl rfl ?_
          refine qr_geti (n := 83) 0 65 (dkX12_tell (i := 45) rfl) rfl lmO rfl gnX12 (Nat.le_of_ble_eq_true rfl) kfX12_263 rfl ?_
          refine qr_iconst (n := 84) 1 (dkX12_tell (i := 46) rfl) rfl (by decide) ?_
          refine qr_isub (n := 85) (dkX12_tell (i := 47) rfl) rfl ?_
          exact qr_iret (dkX12_tell (i := 48) rfl) rfl rfl
        · refine qr_iconst (n := 38) (-1) (dkX12_tell (i := 18) rfl) rfl (by decide) ?_
          exact qr_iret (dkX12_tell (i := 19) rfl) rfl rfl
def tbX12_forget : List (Nat × Instr × Nat) := [(0, .aload_n 0, 1), (1, .getfield 263, 3), (4, .istore_n 1, 1), (5, .aload_n 0, 1), (6, .iconst 0, 1), (7, .putfield 263, 3), (10, .iload_n 1, 1), (11, .ireturn, 1)]
set_option maxRecDepth 20000 in
theorem daX12_forget : ∀ x ∈ tbX12_forget, decode cX12_forget x.1 = .ok x.2 := by decide +kernel
theorem dkX12_forget {i pc n : Nat} {ins : Instr} (h : tbX12_forget[i]? = some (pc, ins, n)) : decode cX12_forget pc = .ok (ins, n) := daX12_forget (pc, ins, n) (List.mem_of_getElem? h)
def fX12_forget (S0 : qv_St) : Option (qv_St × Int32) :=
  qv_b ((S0.1 0 65) : Int32) fun x1_1 =>
  qv_b (qv_si S0 0 65 0) fun S_1 =>
  some (S_1, x1_1)
set_option maxRecDepth 20000 in
set_option maxHeartbeats 4000000 in
theorem wX12_forget (G : qv_GT) (S0 : qv_St) : ∀ r, fX12_forget S0 = some r → Cn G Lm yX12_forget cX12_forget 2 (some .int) 1 [.ref (G.2.2.1 0)] S0 (qe_m r) := by
  refine cn_of (own := RX12) (emb := qe_m) (lv := [(0, .ref (G.2.2.1 0))]) rfl rfl (Nat.le_of_ble_eq_true rfl) rfl (fun X => ?_)
  unfold fX12_forget
  refine qr_aload_n (n := 1) 0 (dkX12_forget (i := 0) rfl) rfl rfl ?_
  refine qr_geti (n := 4) 0 65 (dkX12_forget (i := 1) rfl) rfl lmO rfl gnX12 (Nat.le_of_ble_eq_true rfl) kfX12_263 rfl ?_
  refine qr_b (α := Int32) (S0.1 0 65) (lvf := fun _ => [(0, .ref (G.2.2.1 0))]) (stf := fun z => .int z :: []) (Sf := fun _ => S0) (fun x1_1 => ?_)
  refine qr_istore_n (n := 5) (lv2 := [(0, .ref (G.2.2.1 0)), (1, .int x1_1)]) [1, 0] (dkX12_forget (i := 2) rfl) rfl rfl (by decide) rfl ?_
  refine qr_aload_n (n := 6) 0 (dkX12_forget (i := 3) rfl) rfl rfl ?_
  refine qr_iconst (n := 7) 0 (dkX12_forget (i := 4) rfl) rfl (by decide) ?_
  refine qr_puti (n := 10) 0 65 (dkX12_forget (i := 5) rfl) rfl lmO rfl gnX12 (Nat.le_of_ble_eq_true rfl) kfX12_263 rfl tyX12_ok nmX12 rfl rfl (fun S_1 => ?_)
  refine qr_iload_n (n := 11) 1 (dkX12_forget (i := 6) rfl) rfl rfl ?_
  exact qr_iret (dkX12_forget (i := 7) rfl) rfl rfl
def tbX12_isSo : List (Nat × Instr × Nat) := [(0, .iconst 0, 1), (1, .istore_n 3, 1), (2, .iload_n 3, 1), (3, .iload_n 1, 1), (4, .if_icmp .ge 38, 3), (7, .aload_n 0, 1), (8, .aload_n 0, 1), (9, .getfield 146, 3), (12, .iload_n 3, 1), (13, .iaload, 1), (14, .iload_n 2, 1), (15, .aload_n 0, 1), (16, .getfield 149, 3), (19, .iload_n 3, 1), (20, .iaload, 1), (21, .iadd, 1), (22, .invokevirtual 359, 3), (25, .aload_n 0, 1), (26, .getfield 152, 3), (29, .iload_n 3, 1), (30, .iaload, 1), (31, .if_icmp .eq 5, 3), (34, .iconst 0, 1), (35, .ireturn, 1), (36, .iinc 3 1, 3), (39, .goto (-37), 3), (42, .iconst 1, 1), (43, .ireturn, 1)]
set_option maxRecDepth 20000 in
theorem daX12_isSo : ∀ x ∈ tbX12_isSo, decode cX12_isSo x.1 = .ok x.2 := by decide +kernel
theorem dkX12_isSo {i pc n : Nat} {ins : Instr} (h : tbX12_isSo[i]? = some (pc, ins, n)) : decode cX12_isSo pc = .ok (ins, n) := daX12_isSo (pc, ins, n) (List.mem_of_getElem? h)
def fX12_isSo (S0 : qv_St) (x1 : Int32) (x2 : Int32) : Option (qv_St × Int32) :=
  qv_lp2 qv_N (fun self_1 (S_1 : qv_St) (x3_1 : Int32) =>
    if x1 ≤ x3_1 then
      some (S_1, 1)
    else
      qv_ck x3_1 20 <|
      qv_ck x3_1 20 <|
      qv_cm (fX12_mostHeard S_1 (S_1.1 43 (Int32.toNatClampNeg x3_1)) (x2 + (S_1.1 44 (Int32.toNatClampNeg x3_1)))) fun S_2 r_1 =>
      qv_ck x3_1 20 <|
      if r_1 = (S_2.1 45 (Int32.toNatClampNeg x3_1)) then
        self_1 S_2 (x3_1 + 1)
      else
        some (S_2, 0)) S0 0
set_option maxRecDepth 20000 in
set_option maxHeartbeats 4000000 in
theorem wX12_isSo (G : qv_GT) (S0 : qv_St) (x1 : Int32) (x2 : Int32) : ∀ r, fX12_isSo S0 x1 x2 = some r → Cn G Lm yX12_isSo cX12_isSo 4 (some .boolean) 8 [.ref (G.2.2.1 0), .int x1, .int x2] S0 (qe_m r) := by
  refine cn_of (own := RX12) (emb := qe_m) (lv := [(0, .ref (G.2.2.1 0)), (1, .int x1), (2, .int x2)]) rfl rfl (Nat.le_of_ble_eq_true rfl) rfl (fun X => ?_)
  unfold fX12_isSo
  refine qr_iconst (n := 1) 0 (dkX12_isSo (i := 0) rfl) rfl (by decide) ?_
  refine qr_istore_n (n := 2) (lv2 := [(0, .ref (G.2.2.1 0)), (1, .int x1), (2, .int x2), (3, .int 0)]) [1, 2, 3, 0] (dkX12_isSo (i := 1) rfl) rfl rfl (by decide) rfl ?_
  refine qr_lp2 (fun (S_1 : qv_St) (x3_1 : Int32) => [(0, .ref (G.2.2.1 0)), (1, .int x1), (2, .int x2), (3, .int x3_1)]) (fun (S_1 : qv_St) (x3_1 : Int32) => S_1) (fun self_1 hself_1 S_1 x3_1 => ?_) qv_N S0 0
  refine qr_iload_n (n := 3) 3 (dkX12_isSo (i := 2) rfl) rfl rfl ?_
  refine qr_iload_n (n := 4) 1 (dkX12_isSo (i := 3) rfl) rfl rfl ?_
  refine qr_icmp_ge (t := 42) (n := 7) (dkX12_isSo (i := 4) rfl) (by decide) rfl ?_ ?_
  · refine qr_iconst (n := 43) 1 (dkX12_isSo (i := 26) rfl) rfl (by decide) ?_
    exact qr_zretc (dkX12_isSo (i := 27) rfl) rfl rfl rfl
  · refine qr_aload_n (n := 8) 0 (dkX12_isSo (i := 5) rfl) rfl rfl ?_
    refine qr_aload_n (n := 9) 0 (dkX12_isSo (i := 6) rfl) rfl rfl ?_
    refine qr_geta (n := 12) 0 66 43 (dkX12_isSo (i := 7) rfl) rfl lmO rfl gnX12 (Nat.le_of_ble_eq_true rfl) kfX12_146 rfl ?_
    refine qr_iload_n (n := 13) 3 (dkX12_isSo (i := 8) rfl) rfl rfl ?_
    refine qr_iald (n := 14) 43 20 (dkX12_isSo (i := 9) rfl) rfl lmA_43 ?_
    refine qr_iload_n (n := 15) 2 (dkX12_isSo (i := 10) rfl) rfl rfl ?_
    refine qr_aload_n (n := 16) 0 (dkX12_isSo (i := 11) rfl) rfl rfl ?_
    refine qr_geta (n := 19) 0 67 44 (dkX12_isSo (i := 12) rfl) rfl lmO rfl gnX12 (Nat.le_of_ble_eq_true rfl) kfX12_149 rfl ?_
    refine qr_iload_n (n := 20) 3 (dkX12_isSo (i := 13) rfl) rfl rfl ?_
    refine qr_iald (n := 21) 44 20 (dkX12_isSo (i := 14) rfl) rfl lmA_44 ?_
    refine qr_iadd (n := 22) (dkX12_isSo (i := 15) rfl) rfl ?_
    refine qr_cvm (n := 25) 0 [.int (S_1.1 43 (Int32.toNatClampNeg x3_1)), .int (x2 + (S_1.1 44 (Int32.toNatClampNeg x3_1)))] (dkX12_isSo (i := 16) rfl) rfl kvX12_359 rfl rfl (Nat.le_of_ble_eq_true rfl) rfl rfl lmO rfl (wX12_mostHeard G S_1 (S_1.1 43 (Int32.toNatClampNeg x3_1)) (x2 + (S_1.1 44 (Int32.toNatClampNeg x3_1)))) (fun S_2 r_1 => ?_)
    refine qr_aload_n (n := 26) 0 (dkX12_isSo (i := 17) rfl) rfl rfl ?_
    refine qr_geta (n := 29) 0 68 45 (dkX12_isSo (i := 18) rfl) rfl lmO rfl gnX12 (Nat.le_of_ble_eq_true rfl) kfX12_152 rfl ?_
    refine qr_iload_n (n := 30) 3 (dkX12_isSo (i := 19) rfl) rfl rfl ?_
    refine qr_iald (n := 31) 45 20 (dkX12_isSo (i := 20) rfl) rfl lmA_45 ?_
    refine qr_icmp_eq (t := 36) (n := 34) (dkX12_isSo (i := 21) rfl) (by decide) rfl ?_ ?_
    · refine qr_iinc (n := 39) (v := 1) (lv2 := [(0, .ref (G.2.2.1 0)), (1, .int x1), (2, .int x2), (3, .int (x3_1 + 1))]) 3 [1, 2, 3, 0] (dkX12_isSo (i := 24) rfl) rfl rfl (by decide) (by decide) rfl ?_
      refine qr_goto (n := 2) (dkX12_isSo (i := 25) rfl) (by decide) ?_
      exact hself_1 S_2 (x3_1 + 1)
    · refine qr_iconst (n := 35) 0 (dkX12_isSo (i := 22) rfl) rfl (by decide) ?_
      exact qr_zretc (dkX12_isSo (i := 23) rfl) rfl rfl rfl
def tbX12_when : List (Nat × Instr × Nat) := [(0, .iload_n 1, 1), (1, .iconst 0, 1), (2, .aload_n 0, 1), (3, .getfield 263, 3), (6, .invokestatic 319, 3), (9, .ifCond .eq 8, 3), (12, .iload_n 2, 1), (13, .iconst (-1), 1), (14, .if_icmp .ge 5, 3), (17, .iconst (-1), 1), (18, .ireturn, 1), (19, .aload_n 0, 1), (20, .invokevirtual 384, 3), (23, .iconst 0, 1), (24, .istore_n 3, 1), (25, .iload_n 3, 1), (26, .bipush 8, 2), (28, .if_icmp .ge 18, 3), (31, .aload_n 0, 1), (32, .getfield 128, 3), (35, .iconst 4, 1), (36, .iload_n 3, 1), (37, .iadd, 1), (38, .iconst 0, 1), (39, .iastore, 1), (40, .iinc 3 1, 3), (43, .goto (-18), 3), (46, .iconst 0, 1), (47, .istore_n 3, 1), (48, .iconst 0, 1), (49, .istore 4, 2), (51, .iload 4, 2), (53, .sipush 999, 3), (56, .if_icmp .gt 33, 3), (59, .aload_n 0, 1), (60, .iload_n 1, 1), (61, .iload 4, 2), (63, .invokevirtual 459, 3), (66, .ifCond .ne 6, 3), (69, .goto 14, 3), (72, .iload_n 3, 1), (73, .iload_n 2, 1), (74, .if_icmp .ne 6, 3), (77, .iload 4, 2), (79, .ireturn, 1), (80, .iinc 3 1, 3), (83, .iinc 4 1, 3), (86, .goto (-35), 3), (89, .iload_n 2, 1), (90, .iconst (-1), 1), (91, .if_icmp .ne 7, 3), (94, .iload_n 3, 1), (95, .goto 4, 3), (98, .iconst (-1), 1), (99, .ireturn, 1)]
set_option maxRecDepth 20000 in
theorem daX12_when : ∀ x ∈ tbX12_when, decode cX12_when x.1 = .ok x.2 := by decide +kernel
theorem dkX12_when {i pc n : Nat} {ins : Instr} (h : tbX12_when[i]? = some (pc, ins, n)) : decode cX12_when pc = .ok (ins, n) := daX12_when (pc, ins, n) (List.mem_of_getElem? h)
def fX12_when (S0 : qv_St) (x1 : Int32) (x2 : Int32) : Option (qv_St × Int32) :=
  (fX12_in x1 0 (S0.1 0 65)).bind fun r_1 =>
  if r_1 = 0 then
    some (S0, (-1))
  else
    if (-1) ≤ x2 then
      (fX12_copies S0).bind fun S_1 =>
      qv_j (fun (S_2 : qv_St) =>
        qv_j (fun (S_3 : qv_St) (x3_1 : Int32) =>
          if x2 = (-1) then
            some (S_3, x3_1)
          else
            some (S_3, (-1))) fun K_2 =>
        qv_lp3 qv_N (fun self_1 (S_4 : qv_St) (x3_2 : Int32) (x4_1 : Int32) =>
          if 999 < x4_1 then
            K_2 S_4 x3_2
          else
            qv_cm (fX12_isSo S_4 x1 x4_1) fun S_5 r_2 =>
            qv_j (fun (x3_3 : Int32) =>
              self_1 S_5 x3_3 (x4_1 + 1)) fun K_3 =>
            if r_2 = 0 then
              K_3 x3_2
            else
              if x3_2 = x2 then
                some (S_5, x4_1)
              else
                K_3 (x3_2 + 1)) S_2 0 0) fun K_1 =>
      qv_lp2 qv_N (fun self_2 (S_6 : qv_St) (x3_4 : Int32) =>
        if 8 ≤ x3_4 then
          K_1 S_6
        else
          qv_ck (4 + x3_4) 32 <| qv_b (qv_si S_6 37 (Int32.toNatClampNeg (4 + x3_4)) 0) fun S_7 =>
          self_2 S_7 (x3_4 + 1)) S_1 0
    else
      some (S0, (-1))
set_option maxRecDepth 20000 in
set_option maxHeartbeats 4000000 in
theorem wX12_when (G : qv_GT) (S0 : qv_St) (x1 : Int32) (x2 : Int32) : ∀ r, fX12_when S0 x1 x2 = some r → Cn G Lm yX12_when cX12_when 5 (some .int) 9 [.ref (G.2.2.1 0), .int x1, .int x2] S0 (qe_m r) := by
  refine cn_of (own := RX12) (emb := qe_m) (lv := [(0, .ref (G.2.2.1 0)), (1, .int x1), (2, .int x2)]) rfl rfl (Nat.le_of_ble_eq_true rfl) rfl (fun X => ?_)
  unfold fX12_when
  refine qr_iload_n (n := 1) 1 (dkX12_when (i := 0) rfl) rfl rfl ?_
  refine qr_iconst (n := 2) 0 (dkX12_when (i := 1) rfl) rfl (by decide) ?_
  refine qr_aload_n (n := 3) 0 (dkX12_when (i := 2) rfl) rfl rfl ?_
  refine qr_geti (n := 6) 0 65 (dkX12_when (i := 3) rfl) rfl lmO rfl gnX12 (Nat.le_of_ble_eq_true rfl) kfX12_263 rfl ?_
  refine qr_csi (n := 9) [.int x1, .int 0, .int (S0.1 0 65)] (dkX12_when (i := 4) rfl) rfl kvX12_319 rfl rfl (Nat.le_of_ble_eq_true rfl) rfl rfl (wX12_in G S0 x1 0 (S0.1 0 65)) (fun r_1 => ?_)
  refine qr_if_eq (t := 17) (n := 12) (dkX12_when (i := 5) rfl) (by decide) rfl ?_ ?_
  · refine qr_iconst (n := 18) (-1) (dkX12_when (i := 9) rfl) rfl (by decide) ?_
    exact qr_iret (dkX12_when (i := 10) rfl) rfl rfl
  · refine qr_iload_n (n := 13) 2 (dkX12_when (i := 6) rfl) rfl rfl ?_
    refine qr_iconst (n := 14) (-1) (dkX12_when (i := 7) rfl) rfl (by decide) ?_
    refine qr_icmp_ge (t := 19) (n := 17) (dkX12_when (i := 8) rfl) (by decide) rfl ?_ ?_
    · refine qr_aload_n (n := 20) 0 (dkX12_when (i := 11) rfl) rfl rfl ?_
      refine qr_cvu (n := 23) 0 [] (dkX12_when (i := 12) rfl) rfl kvX12_384 rfl rfl (Nat.le_of_ble_eq_true rfl) rfl rfl lmO rfl (wX12_copies G S0) (fun S_1 => ?_)
      refine qr_iconst (n := 24) 0 (dkX12_when (i := 13) rfl) rfl (by decide) ?_
      refine qr_istore_n (n := 25) (lv2 := [(0, .ref (G.2.2.1 0)), (1, .int x1), (2, .int x2), (3, .int 0)]) [1, 2, 3, 0] (dkX12_when (i := 14) rfl) rfl rfl (by decide) rfl ?_
      refine qr_j (fun K_1 : qv_St → Option (qv_St × Int32) => ∀ (S_2 : qv_St), VV G Lm X RX12 cX12_when 5 (some .int) 9 qe_m 46 [(0, .ref (G.2.2.1 0)), (1, .int x1), (2, .int x2)] [] S_2 (K_1 S_2)) (fun S_2 => ?_) (fun K_1 hK_1 => ?_)
      · refine qr_iconst (n := 47) 0 (dkX12_when (i := 27) rfl) rfl (by decide) ?_
        refine qr_istore_n (n := 48) (lv2 := [(0, .ref (G.2.2.1 0)), (1, .int x1), (2, .int x2), (3, .int 0)]) [1, 2, 3, 0] (dkX12_when (i := 28) rfl) rfl rfl (by decide) rfl ?_
        refine qr_iconst (n := 49) 0 (dkX12_when (i := 29) rfl) rfl (by decide) ?_
        refine qr_istore (n := 51) (lv2 := [(0, .ref (G.2.2.1 0)), (1, .int x1), (2, .int x2), (3, .int 0), (4, .int 0)]) [1, 2, 3, 4, 0] (dkX12_when (i := 30) rfl) rfl (by decide) rfl ?_
        refine qr_j (fun K_2 : qv_St → Int32 → Option (qv_St × Int32) => ∀ (S_3 : qv_St) (x3_1 : Int32), VV G Lm X RX12 cX12_when 5 (some .int) 9 qe_m 89 [(2, .int x2), (3, .int x3_1)] [] S_3 (K_2 S_3 x3_1)) (fun S_3 x3_1 => ?_) (fun K_2 hK_2 => ?_)
        · refine qr_iload_n (n := 90) 0 (dkX12_when (i := 48) rfl) rfl rfl ?_
          refine qr_iconst (n := 91) (-1) (dkX12_when (i := 49) rfl) rfl (by decide) ?_
          refine qr_icmp_ne (t := 98) (n := 94) (dkX12_when (i := 50) rfl) (by decide) rfl ?_ ?_
          · refine qr_iconst (n := 99) (-1) (dkX12_when (i := 53) rfl) rfl (by decide) ?_
            exact qr_iret (dkX12_when (i := 54) rfl) rfl rfl
          · refine qr_iload_n (n := 95) 1 (dkX12_when (i := 51) rfl) rfl rfl ?_
            refine qr_goto (n := 99) (dkX12_when (i := 52) rfl) (by decide) ?_
            exact qr_iret (dkX12_when (i := 54) rfl) rfl rfl
        · refine qr_lp3 (fun (S_4 : qv_St) (x3_2 : Int32) (x4_1 : Int32) => [(0, .ref (G.2.2.1 0)), (1, .int x1), (2, .int x2), (3, .int x3_2), (4, .int x4_1)]) (fun (S_4 : qv_St) (x3_2 : Int32) (x4_1 : Int32) => S_4) (fun self_1 hself_1 S_4 x3_2 x4_1 => ?_) qv_N S_2 0 0
          refine qr_iload (n := 53) 4 (dkX12_when (i := 31) rfl) rfl rfl ?_
          refine qr_sipush (n := 56) 999 (dkX12_when (i := 32) rfl) rfl (by decide) ?_
          refine qr_icmp_gt (t := 89) (n := 59) (dkX12_when (i := 33) rfl) (by decide) rfl ?_ ?_
          · refine qr_sub [2, 3] rfl ?_
            exact hK_2 S_4 x3_2
          · refine qr_aload_n (n := 60) 0 (dkX12_when (i := 34) rfl) rfl rfl ?_
            refine qr_iload_n (n := 61) 1 (dkX12_when (i := 35) rfl) rfl rfl ?_
            refine qr_iload (n := 63) 4 (dkX12_when (i := 36) rfl) rfl rfl ?_
            refine qr_cvm (n := 66) 0 [.int x1, .int x4_1] (dkX12_when (i := 37) rfl) rfl kvX12_459 rfl rfl (Nat.le_of_ble_eq_true rfl) rfl rfl lmO rfl (wX12_isSo G S_4 x1 x4_1) (fun S_5 r_2 => ?_)
            refine qr_j (fun K_3 : Int32 → Option (qv_St × Int32) => ∀ (x3_3 : Int32), VV G Lm X RX12 cX12_when 5 (some .int) 9 qe_m 83 [(0, .ref (G.2.2.1 0)), (1, .int x1), (2, .int x2), (3, .int x3_3), (4, .int x4_1)] [] S_5 (K_3 x3_3)) (fun x3_3 => ?_) (fun K_3 hK_3 => ?_)
            · refine qr_iinc (n := 86) (v := 1) (lv2 := [(0, .ref (G.2.2.1 0)), (1, .int x1), (2, .int x2), (3, .int x3_3), (4, .int (x4_1 + 1))]) 4 [1, 2, 3, 4, 0] (dkX12_when (i := 46) rfl) rfl rfl (by decide) (by decide) rfl ?_
              refine qr_goto (n := 51) (dkX12_when (i := 47) rfl) (by decide) ?_
              exact hself_1 S_5 x3_3 (x4_1 + 1)
            · refine qr_if_ne (t := 72) (n := 69) (dkX12_when (i := 38) rfl) (by decide) rfl ?_ ?_
              · refine qr_iload_n (n := 73) 3 (dkX12_when (i := 40) rfl) rfl rfl ?_
                refine qr_iload_n (n := 74) 2 (dkX12_when (i := 41) rfl) rfl rfl ?_
                refine qr_icmp_ne (t := 80) (n := 77) (dkX12_when (i := 42) rfl) (by decide) rfl ?_ ?_
                · refine qr_iinc (n := 83) (v := 1) (lv2 := [(0, .ref (G.2.2.1 0)), (1, .int x1), (2, .int x2), (3, .int (x3_2 + 1)), (4, .int x4_1)]) 3 [1, 2, 3, 0, 4] (dkX12_when (i := 45) rfl) rfl rfl (by decide) (by decide) rfl ?_
                  exact hK_3 (x3_2 + 1)
                · refine qr_iload (n := 79) 4 (dkX12_when (i := 43) rfl) rfl rfl ?_
                  exact qr_iret (dkX12_when (i := 44) rfl) rfl rfl
              · refine qr_goto (n := 83) (dkX12_when (i := 39) rfl) (by decide) ?_
                exact hK_3 x3_2
      · refine qr_lp2 (fun (S_6 : qv_St) (x3_4 : Int32) => [(0, .ref (G.2.2.1 0)), (1, .int x1), (2, .int x2), (3, .int x3_4)]) (fun (S_6 : qv_St) (x3_4 : Int32) => S_6) (fun self_2 hself_2 S_6 x3_4 => ?_) qv_N S_1 0
        refine qr_iload_n (n := 26) 3 (dkX12_when (i := 15) rfl) rfl rfl ?_
        refine qr_bipush (n := 28) 8 (dkX12_when (i := 16) rfl) rfl (by decide) ?_
        refine qr_icmp_ge (t := 46) (n := 31) (dkX12_when (i := 17) rfl) (by decide) rfl ?_ ?_
        · refine qr_sub [0, 1, 2] rfl ?_
          exact hK_1 S_6
        · refine qr_aload_n (n := 32) 0 (dkX12_when (i := 18) rfl) rfl rfl ?_
          refine qr_geta (n := 35) 0 54 37 (dkX12_when (i := 19) rfl) rfl lmO rfl gnX12 (Nat.le_of_ble_eq_true rfl) kfX12_128 rfl ?_
          refine qr_iconst (n := 36) 4 (dkX12_when (i := 20) rfl) rfl (by decide) ?_
          refine qr_iload_n (n := 37) 3 (dkX12_when (i := 21) rfl) rfl rfl ?_
          refine qr_iadd (n := 38) (dkX12_when (i := 22) rfl) rfl ?_
          refine qr_iconst (n := 39) 0 (dkX12_when (i := 23) rfl) rfl (by decide) ?_
          refine qr_iast (n := 40) 37 32 (dkX12_when (i := 24) rfl) rfl lmA_37 (fun S_7 => ?_)
          refine qr_iinc (n := 43) (v := 1) (lv2 := [(0, .ref (G.2.2.1 0)), (1, .int x1), (2, .int x2), (3, .int (x3_4 + 1))]) 3 [1, 2, 3, 0] (dkX12_when (i := 25) rfl) rfl rfl (by decide) (by decide) rfl ?_
          refine qr_goto (n := 25) (dkX12_when (i := 26) rfl) (by decide) ?_
          exact hself_2 S_7 (x3_4 + 1)
    · refine qr_iconst (n := 18) (-1) (dkX12_when (i := 9) rfl) rfl (by decide) ?_
      exact qr_iret (dkX12_when (i := 10) rfl) rfl rfl
def tbX12_hold : List (Nat × Instr × Nat) := [(0, .iload_n 1, 1), (1, .iconst 0, 1), (2, .iconst 2, 1), (3, .invokestatic 319, 3), (6, .ifCond .ne 5, 3), (9, .iconst 0, 1), (10, .ireturn, 1), (11, .aload_n 0, 1), (12, .getfield 155, 3), (15, .iload_n 1, 1), (16, .iconst 1, 1), (17, .bastore, 1), (18, .iconst 0, 1), (19, .istore_n 2, 1), (20, .iload_n 2, 1), (21, .bipush 32, 2), (23, .if_icmp .ge 26, 3), (26, .aload_n 0, 1), (27, .getfield 158, 3), (30, .bipush 32, 2), (32, .iload_n 1, 1), (33, .imul, 1), (34, .iload_n 2, 1), (35, .iadd, 1), (36, .aload_n 0, 1), (37, .getfield 125, 3), (40, .iload_n 2, 1), (41, .iaload, 1), (42, .iastore, 1), (43, .iinc 2 1, 3), (46, .goto (-26), 3), (49, .iconst 1, 1), (50, .ireturn, 1)]
set_option maxRecDepth 20000 in
theorem daX12_hold : ∀ x ∈ tbX12_hold, decode cX12_hold x.1 = .ok x.2 := by decide +kernel
theorem dkX12_hold {i pc n : Nat} {ins : Instr} (h : tbX12_hold[i]? = some (pc, ins, n)) : decode cX12_hold pc = .ok (ins, n) := daX12_hold (pc, ins, n) (List.mem_of_getElem? h)
def fX12_hold (S0 : qv_St) (x1 : Int32) : Option (qv_St × Int32) :=
  (fX12_in x1 0 2).bind fun r_1 =>
  if r_1 = 0 then
    some (S0, 0)
  else
    qv_ck x1 3 <| qv_b (qv_si S0 46 (Int32.toNatClampNeg x1) (vp_nar .boolean 1)) fun S_1 =>
    qv_lp2 qv_N (fun self_1 (S_2 : qv_St) (x2_1 : Int32) =>
      if 32 ≤ x2_1 then
        some (S_2, 1)
      else
        qv_ck x2_1 32 <|
        qv_ck ((32 * x1) + x2_1) 96 <| qv_b (qv_si S_2 47 (Int32.toNatClampNeg ((32 * x1) + x2_1)) (S_2.1 36 (Int32.toNatClampNeg x2_1))) fun S_3 =>
        self_1 S_3 (x2_1 + 1)) S_1 0
set_option maxRecDepth 20000 in
set_option maxHeartbeats 4000000 in
theorem wX12_hold (G : qv_GT) (S0 : qv_St) (x1 : Int32) : ∀ r, fX12_hold S0 x1 = some r → Cn G Lm yX12_hold cX12_hold 3 (some .boolean) 2 [.ref (G.2.2.1 0), .int x1] S0 (qe_m r) := by
  refine cn_of (own := RX12) (emb := qe_m) (lv := [(0, .ref (G.2.2.1 0)), (1, .int x1)]) rfl rfl (Nat.le_of_ble_eq_true rfl) rfl (fun X => ?_)
  unfold fX12_hold
  refine qr_iload_n (n := 1) 1 (dkX12_hold (i := 0) rfl) rfl rfl ?_
  refine qr_iconst (n := 2) 0 (dkX12_hold (i := 1) rfl) rfl (by decide) ?_
  refine qr_iconst (n := 3) 2 (dkX12_hold (i := 2) rfl) rfl (by decide) ?_
  refine qr_csi (n := 6) [.int x1, .int 0, .int 2] (dkX12_hold (i := 3) rfl) rfl kvX12_319 rfl rfl (Nat.le_of_ble_eq_true rfl) rfl rfl (wX12_in G S0 x1 0 2) (fun r_1 => ?_)
  refine qr_if_ne (t := 11) (n := 9) (dkX12_hold (i := 4) rfl) (by decide) rfl ?_ ?_
  · refine qr_aload_n (n := 12) 0 (dkX12_hold (i := 7) rfl) rfl rfl ?_
    refine qr_geta (n := 15) 0 69 46 (dkX12_hold (i := 8) rfl) rfl lmO rfl gnX12 (Nat.le_of_ble_eq_true rfl) kfX12_155 rfl ?_
    refine qr_iload_n (n := 16) 1 (dkX12_hold (i := 9) rfl) rfl rfl ?_
    refine qr_iconst (n := 17) 1 (dkX12_hold (i := 10) rfl) rfl (by decide) ?_
    refine qr_zast (n := 18) 46 3 (dkX12_hold (i := 11) rfl) rfl lmA_46 (fun S_1 => ?_)
    refine qr_iconst (n := 19) 0 (dkX12_hold (i := 12) rfl) rfl (by decide) ?_
    refine qr_istore_n (n := 20) (lv2 := [(0, .ref (G.2.2.1 0)), (1, .int x1), (2, .int 0)]) [1, 2, 0] (dkX12_hold (i := 13) rfl) rfl rfl (by decide) rfl ?_
    refine qr_lp2 (fun (S_2 : qv_St) (x2_1 : Int32) => [(0, .ref (G.2.2.1 0)), (1, .int x1), (2, .int x2_1)]) (fun (S_2 : qv_St) (x2_1 : Int32) => S_2) (fun self_1 hself_1 S_2 x2_1 => ?_) qv_N S_1 0
    refine qr_iload_n (n := 21) 2 (dkX12_hold (i := 14) rfl) rfl rfl ?_
    refine qr_bipush (n := 23) 32 (dkX12_hold (i := 15) rfl) rfl (by decide) ?_
    refine qr_icmp_ge (t := 49) (n := 26) (dkX12_hold (i := 16) rfl) (by decide) rfl ?_ ?_
    · refine qr_iconst (n := 50) 1 (dkX12_hold (i := 31) rfl) rfl (by decide) ?_
      exact qr_zretc (dkX12_hold (i := 32) rfl) rfl rfl rfl
    · refine qr_aload_n (n := 27) 0 (dkX12_hold (i := 17) rfl) rfl rfl ?_
      refine qr_geta (n := 30) 0 70 47 (dkX12_hold (i := 18) rfl) rfl lmO rfl gnX12 (Nat.le_of_ble_eq_true rfl) kfX12_158 rfl ?_
      refine qr_bipush (n := 32) 32 (dkX12_hold (i := 19) rfl) rfl (by decide) ?_
      refine qr_iload_n (n := 33) 1 (dkX12_hold (i := 20) rfl) rfl rfl ?_
      refine qr_imul (n := 34) (dkX12_hold (i := 21) rfl) rfl ?_
      refine qr_iload_n (n := 35) 2 (dkX12_hold (i := 22) rfl) rfl rfl ?_
      refine qr_iadd (n := 36) (dkX12_hold (i := 23) rfl) rfl ?_
      refine qr_aload_n (n := 37) 0 (dkX12_hold (i := 24) rfl) rfl rfl ?_
      refine qr_geta (n := 40) 0 53 36 (dkX12_hold (i := 25) rfl) rfl lmO rfl gnX12 (Nat.le_of_ble_eq_true rfl) kfX12_125 rfl ?_
      refine qr_iload_n (n := 41) 2 (dkX12_hold (i := 26) rfl) rfl rfl ?_
      refine qr_iald (n := 42) 36 32 (dkX12_hold (i := 27) rfl) rfl lmA_36 ?_
      refine qr_iast (n := 43) 47 96 (dkX12_hold (i := 28) rfl) rfl lmA_47 (fun S_3 => ?_)
      refine qr_iinc (n := 46) (v := 1) (lv2 := [(0, .ref (G.2.2.1 0)), (1, .int x1), (2, .int (x2_1 + 1))]) 2 [1, 2, 0] (dkX12_hold (i := 29) rfl) rfl rfl (by decide) (by decide) rfl ?_
      refine qr_goto (n := 20) (dkX12_hold (i := 30) rfl) (by decide) ?_
      exact hself_1 S_3 (x2_1 + 1)
  · refine qr_iconst (n := 10) 0 (dkX12_hold (i := 5) rfl) rfl (by decide) ?_
    exact qr_zretc (dkX12_hold (i := 6) rfl) rfl rfl rfl
def tbX12_restore : List (Nat × Instr × Nat) := [(0, .iload_n 1, 1), (1, .iconst 0, 1), (2, .iconst 2, 1), (3, .invokestatic 319, 3), (6, .ifCond .eq 12, 3), (9, .aload_n 0, 1), (10, .getfield 155, 3), (13, .iload_n 1, 1), (14, .baload, 1), (15, .ifCond .ne 5, 3), (18, .iconst 0, 1), (19, .ireturn, 1), (20, .iconst 0, 1), (21, .istore_n 2, 1), (22, .iload_n 2, 1), (23, .bipush 32, 2), (25, .if_icmp .ge 26, 3), (28, .aload_n 0, 1), (29, .getfield 125, 3), (32, .iload_n 2, 1), (33, .aload_n 0, 1), (34, .getfield 158, 3), (37, .bipush 32, 2), (39, .iload_n 1, 1), (40, .imul, 1), (41, .iload_n 2, 1), (42, .iadd, 1), (43, .iaload, 1), (44, .iastore, 1), (45, .iinc 2 1, 3), (48, .goto (-26), 3), (51, .aload_n 0, 1), (52, .iconst 0, 1), (53, .putfield 260, 3), (56, .iconst 1, 1), (57, .ireturn, 1)]
set_option maxRecDepth 20000 in
theorem daX12_restore : ∀ x ∈ tbX12_restore, decode cX12_restore x.1 = .ok x.2 := by decide +kernel
theorem dkX12_restore {i pc n : Nat} {ins : Instr} (h : tbX12_restore[i]? = some (pc, ins, n)) : decode cX12_restore pc = .ok (ins, n) := daX12_restore (pc, ins, n) (List.mem_of_getElem? h)
def fX12_restore (S0 : qv_St) (x1 : Int32) : Option (qv_St × Int32) :=
  (fX12_in x1 0 2).bind fun r_1 =>
  if r_1 = 0 then
    some (S0, 0)
  else
    qv_ck x1 3 <|
    if (S0.1 46 (Int32.toNatClampNeg x1)) = 0 then
      some (S0, 0)
    else
      qv_j (fun (S_1 : qv_St) =>
        qv_b (qv_si S_1 0 57 0) fun S_2 =>
        some (S_2, 1)) fun K_1 =>
      qv_lp2 qv_N (fun self_1 (S_3 : qv_St) (x2_1 : Int32) =>
        if 32 ≤ x2_1 then
          K_1 S_3
        else
          qv_ck ((32 * x1) + x2_1) 96 <|
          qv_ck x2_1 32 <| qv_b (qv_si S_3 36 (Int32.toNatClampNeg x2_1) (S_3.1 47 (Int32.toNatClampNeg ((32 * x1) + x2_1)))) fun S_4 =>
          self_1 S_4 (x2_1 + 1)) S0 0
set_option maxRecDepth 20000 in
set_option maxHeartbeats 4000000 in
theorem wX12_restore (G : qv_GT) (S0 : qv_St) (x1 : Int32) : ∀ r, fX12_restore S0 x1 = some r → Cn G Lm yX12_restore cX12_restore 3 (some .boolean) 2 [.ref (G.2.2.1 0), .int x1] S0 (qe_m r) := by
  refine cn_of (own := RX12) (emb := qe_m) (lv := [(0, .ref (G.2.2.1 0)), (1, .int x1)]) rfl rfl (Nat.le_of_ble_eq_true rfl) rfl (fun X => ?_)
  unfold fX12_restore
  refine qr_iload_n (n := 1) 1 (dkX12_restore (i := 0) rfl) rfl rfl ?_
  refine qr_iconst (n := 2) 0 (dkX12_restore (i := 1) rfl) rfl (by decide) ?_
  refine qr_iconst (n := 3) 2 (dkX12_restore (i := 2) rfl) rfl (by decide) ?_
  refine qr_csi (n := 6) [.int x1, .int 0, .int 2] (dkX12_restore (i := 3) rfl) rfl kvX12_319 rfl rfl (Nat.le_of_ble_eq_true rfl) rfl rfl (wX12_in G S0 x1 0 2) (fun r_1 => ?_)
  refine qr_if_eq (t := 18) (n := 9) (dkX12_restore (i := 4) rfl) (by decide) rfl ?_ ?_
  · refine qr_iconst (n := 19) 0 (dkX12_restore (i := 10) rfl) rfl (by decide) ?_
    exact qr_zretc (dkX12_restore (i := 11) rfl) rfl rfl rfl
  · refine qr_aload_n (n := 10) 0 (dkX12_restore (i := 5) rfl) rfl rfl ?_
    refine qr_geta (n := 13) 0 69 46 (dkX12_restore (i := 6) rfl) rfl lmO rfl gnX12 (Nat.le_of_ble_eq_true rfl) kfX12_155 rfl ?_
    refine qr_iload_n (n := 14) 1 (dkX12_restore (i := 7) rfl) rfl rfl ?_
    refine qr_zald (n := 15) 46 3 (dkX12_restore (i := 8) rfl) rfl lmA_46 ?_
    refine qr_if_ne (t := 20) (n := 18) (dkX12_restore (i := 9) rfl) (by decide) rfl ?_ ?_
    · refine qr_iconst (n := 21) 0 (dkX12_restore (i := 12) rfl) rfl (by decide) ?_
      refine qr_istore_n (n := 22) (lv2 := [(0, .ref (G.2.2.1 0)), (1, .int x1), (2, .int 0)]) [1, 2, 0] (dkX12_restore (i := 13) rfl) rfl rfl (by decide) rfl ?_
      refine qr_j (fun K_1 : qv_St → Option (qv_St × Int32) => ∀ (S_1 : qv_St), VV G Lm X RX12 cX12_restore 3 (some .boolean) 2 qe_m 51 [(0, .ref (G.2.2.1 0))] [] S_1 (K_1 S_1)) (fun S_1 => ?_) (fun K_1 hK_1 => ?_)
      · refine qr_aload_n (n := 52) 0 (dkX12_restore (i := 31) rfl) rfl rfl ?_
        refine qr_iconst (n := 53) 0 (dkX12_restore (i := 32) rfl) rfl (by decide) ?_
        refine qr_puti (n := 56) 0 57 (dkX12_restore (i := 33) rfl) rfl lmO rfl gnX12 (Nat.le_of_ble_eq_true rfl) kfX12_260 rfl tyX12_ok nmX12 rfl rfl (fun S_2 => ?_)
        refine qr_iconst (n := 57) 1 (dkX12_restore (i := 34) rfl) rfl (by decide) ?_
        exact qr_zretc (dkX12_restore (i := 35) rfl) rfl rfl rfl
      · refine qr_lp2 (fun (S_3 : qv_St) (x2_1 : Int32) => [(0, .ref (G.2.2.1 0)), (1, .int x1), (2, .int x2_1)]) (fun (S_3 : qv_St) (x2_1 : Int32) => S_3) (fun self_1 hself_1 S_3 x2_1 => ?_) qv_N S0 0
        refine qr_iload_n (n := 23) 2 (dkX12_restore (i := 14) rfl) rfl rfl ?_
        refine qr_bipush (n := 25) 32 (dkX12_restore (i := 15) rfl) rfl (by decide) ?_
        refine qr_icmp_ge (t := 51) (n := 28) (dkX12_restore (i := 16) rfl) (by decide) rfl ?_ ?_
        · refine qr_sub [0] rfl ?_
          exact hK_1 S_3
        · refine qr_aload_n (n := 29) 0 (dkX12_restore (i := 17) rfl) rfl rfl ?_
          refine qr_geta (n := 32) 0 53 36 (dkX12_restore (i := 18) rfl) rfl lmO rfl gnX12 (Nat.le_of_ble_eq_true rfl) kfX12_125 rfl ?_
          refine qr_iload_n (n := 33) 2 (dkX12_restore (i := 19) rfl) rfl rfl ?_
          refine qr_aload_n (n := 34) 0 (dkX12_restore (i := 20) rfl) rfl rfl ?_
          refine qr_geta (n := 37) 0 70 47 (dkX12_restore (i := 21) rfl) rfl lmO rfl gnX12 (Nat.le_of_ble_eq_true rfl) kfX12_158 rfl ?_
          refine qr_bipush (n := 39) 32 (dkX12_restore (i := 22) rfl) rfl (by decide) ?_
          refine qr_iload_n (n := 40) 1 (dkX12_restore (i := 23) rfl) rfl rfl ?_
          refine qr_imul (n := 41) (dkX12_restore (i := 24) rfl) rfl ?_
          refine qr_iload_n (n := 42) 2 (dkX12_restore (i := 25) rfl) rfl rfl ?_
          refine qr_iadd (n := 43) (dkX12_restore (i := 26) rfl) rfl ?_
          refine qr_iald (n := 44) 47 96 (dkX12_restore (i := 27) rfl) rfl lmA_47 ?_
          refine qr_iast (n := 45) 36 32 (dkX12_restore (i := 28) rfl) rfl lmA_36 (fun S_4 => ?_)
          refine qr_iinc (n := 48) (v := 1) (lv2 := [(0, .ref (G.2.2.1 0)), (1, .int x1), (2, .int (x2_1 + 1))]) 2 [1, 2, 0] (dkX12_restore (i := 29) rfl) rfl rfl (by decide) (by decide) rfl ?_
          refine qr_goto (n := 22) (dkX12_restore (i := 30) rfl) (by decide) ?_
          exact hself_1 S_4 (x2_1 + 1)
    · refine qr_iconst (n := 19) 0 (dkX12_restore (i := 10) rfl) rfl (by decide) ?_
      exact qr_zretc (dkX12_restore (i := 11) rfl) rfl rfl rfl
def tbX12_count : List (Nat × Instr × Nat) := [(0, .aload_n 0, 1), (1, .invokevirtual 384, 3), (4, .iconst 0, 1), (5, .istore_n 2, 1), (6, .iload_n 1, 1), (7, .tableswitch 301 0 13 #[69, 79, 89, 99, 106, 113, 120, 127, 173, 208, 213, 218, 223, 268], 69), (76, .aload_n 0, 1), (77, .getfield 43, 3), (80, .aload_n 0, 1), (81, .getfield 242, 3), (84, .iaload, 1), (85, .ireturn, 1), (86, .aload_n 0, 1), (87, .getfield 65, 3), (90, .aload_n 0, 1), (91, .getfield 242, 3), (94, .iaload, 1), (95, .ireturn, 1), (96, .aload_n 0, 1), (97, .getfield 71, 3), (100, .aload_n 0, 1), (101, .getfield 242, 3), (104, .iaload, 1), (105, .ireturn, 1), (106, .aload_n 0, 1), (107, .getfield 128, 3), (110, .iconst 0, 1), (111, .iaload, 1), (112, .ireturn, 1), (113, .aload_n 0, 1), (114, .getfield 128, 3), (117, .iconst 1, 1), (118, .iaload, 1), (119, .ireturn, 1), (120, .aload_n 0, 1), (121, .getfield 128, 3), (124, .iconst 2, 1), (125, .iaload, 1), (126, .ireturn, 1), (127, .aload_n 0, 1), (128, .getfield 128, 3), (131, .iconst 3, 1), (132, .iaload, 1), (133, .ireturn, 1), (134, .iconst 0, 1), (135, .istore_n 3, 1), (136, .iload_n 3, 1), (137, .aload_n 0, 1), (138, .getfield 71, 3), (141, .aload_n 0, 1), (142, .getfield 242, 3), (145, .iaload, 1), (146, .if_icmp .ge 32, 3), (149, .aload_n 0, 1), (150, .iload_n 3, 1), (151, .aload_n 0, 1), (152, .getfield 128, 3), (155, .bipush 12, 2), (157, .iload_n 3, 1), (158, .iadd, 1), (159, .iaload, 1), (160, .invokevirtual 377, 3), (163, .ifCond .eq 9, 3), (166, .iload_n 2, 1), (167, .iconst 1, 1), (168, .iload_n 3, 1), (169, .ishl, 1), (170, .ior, 1), (171, .istore_n 2, 1), (172, .iinc 3 1, 3), (175, .goto (-39), 3), (178, .iload_n 2, 1), (179, .ireturn, 1), (180, .iconst 0, 1), (181, .istore_n 3, 1), (182, .iload_n 3, 1), (183, .aload_n 0, 1), (184, .getfield 71, 3), (187, .aload_n 0, 1), (188, .getfield 242, 3), (191, .iaload, 1), (192, .if_icmp .ge 21, 3), (195, .iload_n 2, 1), (196, .aload_n 0, 1), (197, .getfield 128, 3), (200, .bipush 18, 2), (202, .iload_n 3, 1), (203, .iadd, 1), (204, .iaload, 1), (205, .iadd, 1), (206, .istore_n 2, 1), (207, .iinc 3 1, 3), (210, .goto (-28), 3), (213, .iload_n 2, 1), (214, .ireturn, 1), (215, .aload_n 0, 1), (216, .getfield 175, 3), (219, .ireturn, 1), (220, .aload_n 0, 1), (221, .getfield 260, 3), (224, .ireturn, 1), (225, .aload_n 0, 1), (226, .getfield 263, 3), (229, .ireturn, 1), (230, .aload_n 0, 1), (231, .getfield 155, 3), (234, .iconst 0, 1), (235, .baload, 1), (236, .ifCond .eq 7, 3), (239, .iconst 1, 1), (240, .goto 4, 3), (243, .iconst 0, 1), (244, .aload_n 0, 1), (245, .getfield 155, 3), (248, .iconst 1, 1), (249, .baload, 1), (250, .ifCond .eq 7, 3), (253, .iconst 1, 1), (254, .goto 4, 3), (257, .iconst 0, 1), (258, .iadd, 1), (259, .aload_n 0, 1), (260, .getfield 155, 3), (263, .iconst 2, 1), (264, .baload, 1), (265, .ifCond .eq 7, 3), (268, .iconst 1, 1), (269, .goto 4, 3), (272, .iconst 0, 1), (273, .iadd, 1), (274, .ireturn, 1), (275, .iconst 0, 1), (276, .istore_n 3, 1), (277, .iload_n 3, 1), (278, .aload_n 0, 1), (279, .getfield 43, 3), (282, .aload_n 0, 1), (283, .getfield 242, 3), (286, .iaload, 1), (287, .if_icmp .ge 19, 3), (290, .iload_n 2, 1), (291, .aload_n 0, 1), (292, .iload_n 3, 1), (293, .invokevirtual 387, 3), (296, .iload_n 3, 1), (297, .ishl, 1), (298, .ior, 1), (299, .istore_n 2, 1), (300, .iinc 3 1, 3), (303, .goto (-26), 3), (306, .iload_n 2, 1), (307, .ireturn, 1), (308, .iconst (-1), 1), (309, .ireturn, 1)]
set_option maxRecDepth 20000 in
theorem daX12_count : ∀ x ∈ tbX12_count, decode cX12_count x.1 = .ok x.2 := by decide +kernel
theorem dkX12_count {i pc n : Nat} {ins : Instr} (h : tbX12_count[i]? = some (pc, ins, n)) : decode cX12_count pc = .ok (ins, n) := daX12_count (pc, ins, n) (List.mem_of_getElem? h)
def fX12_count (S0 : qv_St) (x1 : Int32) : Option (qv_St × Int32) :=
  (fX12_copies S0).bind fun S_1 =>
  qv_sw x1 0 13 [
    qv_ck (S_1.1 0 18) 2 <|
    some (S_1, (S_1.1 9 (Int32.toNatClampNeg (S_1.1 0 18)))),
    qv_ck (S_1.1 0 18) 2 <|
    some (S_1, (S_1.1 16 (Int32.toNatClampNeg (S_1.1 0 18)))),
    qv_ck (S_1.1 0 18) 2 <|
    some (S_1, (S_1.1 18 (Int32.toNatClampNeg (S_1.1 0 18)))),
    qv_ck 0 32 <|
    some (S_1, (S_1.1 37 (Int32.toNatClampNeg 0))),
    qv_ck 1 32 <|
    some (S_1, (S_1.1 37 (Int32.toNatClampNeg 1))),
    qv_ck 2 32 <|
    some (S_1, (S_1.1 37 (Int32.toNatClampNeg 2))),
    qv_ck 3 32 <|
    some (S_1, (S_1.1 37 (Int32.toNatClampNeg 3))),
    qv_lp2 qv_N (fun self_1 (x2_1 : Int32) (x3_1 : Int32) =>
      qv_ck (S_1.1 0 18) 2 <|
      if (S_1.1 18 (Int32.toNatClampNeg (S_1.1 0 18))) ≤ x3_1 then
        some (S_1, x2_1)
      else
        qv_ck (12 + x3_1) 32 <|
        (fX12_isWhole S_1 x3_1 (S_1.1 37 (Int32.toNatClampNeg (12 + x3_1)))).bind fun r_1 =>
        qv_j (fun (x2_2 : Int32) =>
          self_1 x2_2 (x3_1 + 1)) fun K_1 =>
        if r_1 = 0 then
          K_1 x2_1
        else
          qv_b ((x2_1 ||| (1 <<< (x3_1 &&& 31))) : Int32) fun x2_3 =>
          K_1 x2_3) 0 0,
    qv_lp2 qv_N (fun self_2 (x2_4 : Int32) (x3_2 : Int32) =>
      qv_ck (S_1.1 0 18) 2 <|
      if (S_1.1 18 (Int32.toNatClampNeg (S_1.1 0 18))) ≤ x3_2 then
        some (S_1, x2_4)
      else
        qv_ck (18 + x3_2) 32 <|
        qv_b ((x2_4 + (S_1.1 37 (Int32.toNatClampNeg (18 + x3_2)))) : Int32) fun x2_5 =>
        self_2 x2_5 (x3_2 + 1)) 0 0,
    some (S_1, (S_1.1 0 2)),
    some (S_1, (S_1.1 0 57)),
    some (S_1, (S_1.1 0 65)),
    qv_ck 0 3 <|
    qv_j (fun (t_1 : Int32) =>
      qv_ck 1 3 <|
      qv_j (fun (t_2 : Int32) =>
        qv_ck 2 3 <|
        qv_j (fun (t_3 : Int32) =>
          some (S_1, ((t_1 + t_2) + t_3))) fun K_4 =>
        if (S_1.1 46 (Int32.toNatClampNeg 2)) = 0 then
          K_4 0
        else
          K_4 1) fun K_3 =>
      if (S_1.1 46 (Int32.toNatClampNeg 1)) = 0 then
        K_3 0
      else
        K_3 1) fun K_2 =>
    if (S_1.1 46 (Int32.toNatClampNeg 0)) = 0 then
      K_2 0
    else
      K_2 1,
    qv_lp2 qv_N (fun self_3 (x2_6 : Int32) (x3_3 : Int32) =>
      qv_ck (S_1.1 0 18) 2 <|
      if (S_1.1 9 (Int32.toNatClampNeg (S_1.1 0 18))) ≤ x3_3 then
        some (S_1, x2_6)
      else
        (fX12_isOn S_1 x3_3).bind fun r_2 =>
        qv_b ((x2_6 ||| (r_2 <<< (x3_3 &&& 31))) : Int32) fun x2_7 =>
        self_3 x2_7 (x3_3 + 1)) 0 0] (
    some (S_1, (-1)))
set_option maxRecDepth 20000 in
set_option maxHeartbeats 4000000 in
theorem wX12_count (G : qv_GT) (S0 : qv_St) (x1 : Int32) : ∀ r, fX12_count S0 x1 = some r → Cn G Lm yX12_count cX12_count 4 (some .int) 7 [.ref (G.2.2.1 0), .int x1] S0 (qe_m r) := by
  refine cn_of (own := RX12) (emb := qe_m) (lv := [(0, .ref (G.2.2.1 0)), (1, .int x1)]) rfl rfl (Nat.le_of_ble_eq_true rfl) rfl (fun X => ?_)
  unfold fX12_count
  refine qr_aload_n (n := 1) 0 (dkX12_count (i := 0) rfl) rfl rfl ?_
  refine qr_cvu (n := 4) 0 [] (dkX12_count (i := 1) rfl) rfl kvX12_384 rfl rfl (Nat.le_of_ble_eq_true rfl) rfl rfl lmO rfl (wX12_copies G S0) (fun S_1 => ?_)
  refine qr_iconst (n := 5) 0 (dkX12_count (i := 2) rfl) rfl (by decide) ?_
  refine qr_istore_n (n := 6) (lv2 := [(0, .ref (G.2.2.1 0)), (1, .int x1), (2, .int 0)]) [1, 2, 0] (dkX12_count (i := 3) rfl) rfl rfl (by decide) rfl ?_
  refine qr_iload_n (n := 7) 1 (dkX12_count (i := 4) rfl) rfl rfl ?_
  refine qr_sw (td := 308) (dkX12_count (i := 5) rfl) (by decide) ?_ ⟨⟨76, by decide, ?_⟩, ⟨86, by decide, ?_⟩, ⟨96, by decide, ?_⟩, ⟨106, by decide, ?_⟩, ⟨113, by decide, ?_⟩, ⟨120, by decide, ?_⟩, ⟨127, by decide, ?_⟩, ⟨134, by decide, ?_⟩, ⟨180, by decide, ?_⟩, ⟨215, by decide, ?_⟩, ⟨220, by decide, ?_⟩, ⟨225, by decide, ?_⟩, ⟨230, by decide, ?_⟩, ⟨275, by decide, ?_⟩, trivial⟩
  · refine qr_iconst (n := 309) (-1) (dkX12_count (i := 152) rfl) rfl (by decide) ?_
    exact qr_iret (dkX12_count (i := 153) rfl) rfl rfl
  · refine qr_aload_n (n := 77) 0 (dkX12_count (i := 6) rfl) rfl rfl ?_
    refine qr_geta (n := 80) 0 22 9 (dkX12_count (i := 7) rfl) rfl lmO rfl gnX12 (Nat.le_of_ble_eq_true rfl) kfX12_43 rfl ?_
    refine qr_aload_n (n := 81) 0 (dkX12_count (i := 8) rfl) rfl rfl ?_
    refine qr_geti (n := 84) 0 18 (dkX12_count (i := 9) rfl) rfl lmO rfl gnX12 (Nat.le_of_ble_eq_true rfl) kfX12_242 rfl ?_
    refine qr_iald (n := 85) 9 2 (dkX12_count (i := 10) rfl) rfl lmA_9 ?_
    exact qr_iret (dkX12_count (i := 11) rfl) rfl rfl
  · refine qr_aload_n (n := 87) 0 (dkX12_count (i := 12) rfl) rfl rfl ?_
    refine qr_geta (n := 90) 0 29 16 (dkX12_count (i := 13) rfl) rfl lmO rfl gnX12 (Nat.le_of_ble_eq_true rfl) kfX12_65 rfl ?_
    refine qr_aload_n (n := 91) 0 (dkX12_count (i := 14) rfl) rfl rfl ?_
    refine qr_geti (n := 94) 0 18 (dkX12_count (i := 15) rfl) rfl lmO rfl gnX12 (Nat.le_of_ble_eq_true rfl) kfX12_242 rfl ?_
    refine qr_iald (n := 95) 16 2 (dkX12_count (i := 16) rfl) rfl lmA_16 ?_
    exact qr_iret (dkX12_count (i := 17) rfl) rfl rfl
  · refine qr_aload_n (n := 97) 0 (dkX12_count (i := 18) rfl) rfl rfl ?_
    refine qr_geta (n := 100) 0 31 18 (dkX12_count (i := 19) rfl) rfl lmO rfl gnX12 (Nat.le_of_ble_eq_true rfl) kfX12_71 rfl ?_
    refine qr_aload_n (n := 101) 0 (dkX12_count (i := 20) rfl) rfl rfl ?_
    refine qr_geti (n := 104) 0 18 (dkX12_count (i := 21) rfl) rfl lmO rfl gnX12 (Nat.le_of_ble_eq_true rfl) kfX12_242 rfl ?_
    refine qr_iald (n := 105) 18 2 (dkX12_count (i := 22) rfl) rfl lmA_18 ?_
    exact qr_iret (dkX12_count (i := 23) rfl) rfl rfl
  · refine qr_aload_n (n := 107) 0 (dkX12_count (i := 24) rfl) rfl rfl ?_
    refine qr_geta (n := 110) 0 54 37 (dkX12_count (i := 25) rfl) rfl lmO rfl gnX12 (Nat.le_of_ble_eq_true rfl) kfX12_128 rfl ?_
    refine qr_iconst (n := 111) 0 (dkX12_count (i := 26) rfl) rfl (by decide) ?_
    refine qr_iald (n := 112) 37 32 (dkX12_count (i := 27) rfl) rfl lmA_37 ?_
    exact qr_iret (dkX12_count (i := 28) rfl) rfl rfl
  · refine qr_aload_n (n := 114) 0 (dkX12_count (i := 29) rfl) rfl rfl ?_
    refine qr_geta (n := 117) 0 54 37 (dkX12_count (i := 30) rfl) rfl lmO rfl gnX12 (Nat.le_of_ble_eq_true rfl) kfX12_128 rfl ?_
    refine qr_iconst (n := 118) 1 (dkX12_count (i := 31) rfl) rfl (by decide) ?_
    refine qr_iald (n := 119) 37 32 (dkX12_count (i := 32) rfl) rfl lmA_37 ?_
    exact qr_iret (dkX12_count (i := 33) rfl) rfl rfl
  · refine qr_aload_n (n := 121) 0 (dkX12_count (i := 34) rfl) rfl rfl ?_
    refine qr_geta (n := 124) 0 54 37 (dkX12_count (i := 35) rfl) rfl lmO rfl gnX12 (Nat.le_of_ble_eq_true rfl) kfX12_128 rfl ?_
    refine qr_iconst (n := 125) 2 (dkX12_count (i := 36) rfl) rfl (by decide) ?_
    refine qr_iald (n := 126) 37 32 (dkX12_count (i := 37) rfl) rfl lmA_37 ?_
    exact qr_iret (dkX12_count (i := 38) rfl) rfl rfl
  · refine qr_aload_n (n := 128) 0 (dkX12_count (i := 39) rfl) rfl rfl ?_
    refine qr_geta (n := 131) 0 54 37 (dkX12_count (i := 40) rfl) rfl lmO rfl gnX12 (Nat.le_of_ble_eq_true rfl) kfX12_128 rfl ?_
    refine qr_iconst (n := 132) 3 (dkX12_count (i := 41) rfl) rfl (by decide) ?_
    refine qr_iald (n := 133) 37 32 (dkX12_count (i := 42) rfl) rfl lmA_37 ?_
    exact qr_iret (dkX12_count (i := 43) rfl) rfl rfl
  · refine qr_iconst (n := 135) 0 (dkX12_count (i := 44) rfl) rfl (by decide) ?_
    refine qr_istore_n (n := 136) (lv2 := [(0, .ref (G.2.2.1 0)), (1, .int x1), (2, .int 0), (3, .int 0)]) [1, 2, 3, 0] (dkX12_count (i := 45) rfl) rfl rfl (by decide) rfl ?_
    refine qr_sub [0, 2, 3] rfl ?_
    refine qr_lp2 (fun (x2_1 : Int32) (x3_1 : Int32) => [(0, .ref (G.2.2.1 0)), (2, .int x2_1), (3, .int x3_1)]) (fun (x2_1 : Int32) (x3_1 : Int32) => S_1) (fun self_1 hself_1 x2_1 x3_1 => ?_) qv_N 0 0
    refine qr_iload_n (n := 137) 2 (dkX12_count (i := 46) rfl) rfl rfl ?_
    refine qr_aload_n (n := 138) 0 (dkX12_count (i := 47) rfl) rfl rfl ?_
    refine qr_geta (n := 141) 0 31 18 (dkX12_count (i := 48) rfl) rfl lmO rfl gnX12 (Nat.le_of_ble_eq_true rfl) kfX12_71 rfl ?_
    refine qr_aload_n (n := 142) 0 (dkX12_count (i := 49) rfl) rfl rfl ?_
    refine qr_geti (n := 145) 0 18 (dkX12_count (i := 50) rfl) rfl lmO rfl gnX12 (Nat.le_of_ble_eq_true rfl) kfX12_242 rfl ?_
    refine qr_iald (n := 146) 18 2 (dkX12_count (i := 51) rfl) rfl lmA_18 ?_
    refine qr_icmp_ge (t := 178) (n := 149) (dkX12_count (i := 52) rfl) (by decide) rfl ?_ ?_
    · refine qr_iload_n (n := 179) 1 (dkX12_count (i := 71) rfl) rfl rfl ?_
      exact qr_iret (dkX12_count (i := 72) rfl) rfl rfl
    · refine qr_aload_n (n := 150) 0 (dkX12_count (i := 53) rfl) rfl rfl ?_
      refine qr_iload_n (n := 151) 2 (dkX12_count (i := 54) rfl) rfl rfl ?_
      refine qr_aload_n (n := 152) 0 (dkX12_count (i := 55) rfl) rfl rfl ?_
      refine qr_geta (n := 155) 0 54 37 (dkX12_count (i := 56) rfl) rfl lmO rfl gnX12 (Nat.le_of_ble_eq_true rfl) kfX12_128 rfl ?_
      refine qr_bipush (n := 157) 12 (dkX12_count (i := 57) rfl) rfl (by decide) ?_
      refine qr_iload_n (n := 158) 2 (dkX12_count (i := 58) rfl) rfl rfl ?_
      refine qr_iadd (n := 159) (dkX12_count (i := 59) rfl) rfl ?_
      refine qr_iald (n := 160) 37 32 (dkX12_count (i := 60) rfl) rfl lmA_37 ?_
      refine qr_cvi (n := 163) 0 [.int x3_1, .int (S_1.1 37 (Int32.toNatClampNeg (12 + x3_1)))] (dkX12_count (i := 61) rfl) rfl kvX12_377 rfl rfl (Nat.le_of_ble_eq_true rfl) rfl rfl lmO rfl (wX12_isWhole G S_1 x3_1 (S_1.1 37 (Int32.toNatClampNeg (12 + x3_1)))) (fun r_1 => ?_)
      refine qr_j (fun K_1 : Int32 → Option (qv_St × Int32) => ∀ (x2_2 : Int32), VV G Lm X RX12 cX12_count 4 (some .int) 7 qe_m 172 [(0, .ref (G.2.2.1 0)), (2, .int x2_2), (3, .int x3_1)] [] S_1 (K_1 x2_2)) (fun x2_2 => ?_) (fun K_1 hK_1 => ?_)
      · refine qr_iinc (n := 175) (v := 1) (lv2 := [(0, .ref (G.2.2.1 0)), (2, .int x2_2), (3, .int (x3_1 + 1))]) 2 [1, 2, 0] (dkX12_count (i := 69) rfl) rfl rfl (by decide) (by decide) rfl ?_
        refine qr_goto (n := 136) (dkX12_count (i := 70) rfl) (by decide) ?_
        exact hself_1 x2_2 (x3_1 + 1)
      · refine qr_if_eq (t := 172) (n := 166) (dkX12_count (i := 62) rfl) (by decide) rfl ?_ ?_
        · exact hK_1 x2_1
        · refine qr_iload_n (n := 167) 1 (dkX12_count (i := 63) rfl) rfl rfl ?_
          refine qr_iconst (n := 168) 1 (dkX12_count (i := 64) rfl) rfl (by decide) ?_
          refine qr_iload_n (n := 169) 2 (dkX12_count (i := 65) rfl) rfl rfl ?_
          refine qr_ishl (n := 170) (dkX12_count (i := 66) rfl) rfl ?_
          refine qr_ior (n := 171) (dkX12_count (i := 67) rfl) rfl ?_
          refine qr_b (α := Int32) (x2_1 ||| (1 <<< (x3_1 &&& 31))) (lvf := fun _ => [(0, .ref (G.2.2.1 0)), (2, .int x2_1), (3, .int x3_1)]) (stf := fun z => .int z :: []) (Sf := fun _ => S_1) (fun x2_3 => ?_)
          refine qr_istore_n (n := 172) (lv2 := [(0, .ref (G.2.2.1 0)), (2, .int x2_3), (3, .int x3_1)]) [1, 0, 2] (dkX12_count (i := 68) rfl) rfl rfl (by decide) rfl ?_
          exact hK_1 x2_3
  · refine qr_iconst (n := 181) 0 (dkX12_count (i := 73) rfl) rfl (by decide) ?_
    refine qr_istore_n (n := 182) (lv2 := [(0, .ref (G.2.2.1 0)), (1, .int x1), (2, .int 0), (3, .int 0)]) [1, 2, 3, 0] (dkX12_count (i := 74) rfl) rfl rfl (by decide) rfl ?_
    refine qr_sub [0, 2, 3] rfl ?_
    refine qr_lp2 (fun (x2_4 : Int32) (x3_2 : Int32) => [(0, .ref (G.2.2.1 0)), (2, .int x2_4), (3, .int x3_2)]) (fun (x2_4 : Int32) (x3_2 : Int32) => S_1) (fun self_2 hself_2 x2_4 x3_2 => ?_) qv_N 0 0
    refine qr_iload_n (n := 183) 2 (dkX12_count (i := 75) rfl) rfl rfl ?_
    refine qr_aload_n (n := 184) 0 (dkX12_count (i := 76) rfl) rfl rfl ?_
    refine qr_geta (n := 187) 0 31 18 (dkX12_count (i := 77) rfl) rfl lmO rfl gnX12 (Nat.le_of_ble_eq_true rfl) kfX12_71 rfl ?_
    refine qr_aload_n (n := 188) 0 (dkX12_count (i := 78) rfl) rfl rfl ?_
    refine qr_geti (n := 191) 0 18 (dkX12_count (i := 79) rfl) rfl lmO rfl gnX12 (Nat.le_of_ble_eq_true rfl) kfX12_242 rfl ?_
    refine qr_iald (n := 192) 18 2 (dkX12_count (i := 80) rfl) rfl lmA_18 ?_
    refine qr_icmp_ge (t := 213) (n := 195) (dkX12_count (i := 81) rfl) (by decide) rfl ?_ ?_
    · refine qr_iload_n (n := 214) 1 (dkX12_count (i := 93) rfl) rfl rfl ?_
      exact qr_iret (dkX12_count (i := 94) rfl) rfl rfl
    · refine qr_iload_n (n := 196) 1 (dkX12_count (i := 82) rfl) rfl rfl ?_
      refine qr_aload_n (n := 197) 0 (dkX12_count (i := 83) rfl) rfl rfl ?_
      refine qr_geta (n := 200) 0 54 37 (dkX12_count (i := 84) rfl) rfl lmO rfl gnX12 (Nat.le_of_ble_eq_true rfl) kfX12_128 rfl ?_
      refine qr_bipush (n := 202) 18 (dkX12_count (i := 85) rfl) rfl (by decide) ?_
      refine qr_iload_n (n := 203) 2 (dkX12_count (i := 86) rfl) rfl rfl ?_
      refine qr_iadd (n := 204) (dkX12_count (i := 87) rfl) rfl ?_
      refine qr_iald (n := 205) 37 32 (dkX12_count (i := 88) rfl) rfl lmA_37 ?_
      refine qr_iadd (n := 206) (dkX12_count (i := 89) rfl) rfl ?_
      refine qr_b (α := Int32) (x2_4 + (S_1.1 37 (Int32.toNatClampNeg (18 + x3_2)))) (lvf := fun _ => [(0, .ref (G.2.2.1 0)), (2, .int x2_4), (3, .int x3_2)]) (stf := fun z => .int z :: []) (Sf := fun _ => S_1) (fun x2_5 => ?_)
      refine qr_istore_n (n := 207) (lv2 := [(0, .ref (G.2.2.1 0)), (2, .int x2_5), (3, .int x3_2)]) [1, 0, 2] (dkX12_count (i := 90) rfl) rfl rfl (by decide) rfl ?_
      refine qr_iinc (n := 210) (v := 1) (lv2 := [(0, .ref (G.2.2.1 0)), (2, .int x2_5), (3, .int (x3_2 + 1))]) 2 [1, 2, 0] (dkX12_count (i := 91) rfl) rfl rfl (by decide) (by decide) rfl ?_
      refine qr_goto (n := 182) (dkX12_count (i := 92) rfl) (by decide) ?_
      exact hself_2 x2_5 (x3_2 + 1)
  · refine qr_aload_n (n := 216) 0 (dkX12_count (i := 95) rfl) rfl rfl ?_
    refine qr_geti (n := 219) 0 2 (dkX12_count (i := 96) rfl) rfl lmO rfl gnX12 (Nat.le_of_ble_eq_true rfl) kfX12_175 rfl ?_
    exact qr_iret (dkX12_count (i := 97) rfl) rfl rfl
  · refine qr_aload_n (n := 221) 0 (dkX12_count (i := 98) rfl) rfl rfl ?_
    refine qr_geti (n := 224) 0 57 (dkX12_count (i := 99) rfl) rfl lmO rfl gnX12 (Nat.le_of_ble_eq_true rfl) kfX12_260 rfl ?_
    exact qr_iret (dkX12_count (i := 100) rfl) rfl rfl
  · refine qr_aload_n (n := 226) 0 (dkX12_count (i := 101) rfl) rfl rfl ?_
    refine qr_geti (n := 229) 0 65 (dkX12_count (i := 102) rfl) rfl lmO rfl gnX12 (Nat.le_of_ble_eq_true rfl) kfX12_263 rfl ?_
    exact qr_iret (dkX12_count (i := 103) rfl) rfl rfl
  · refine qr_aload_n (n := 231) 0 (dkX12_count (i := 104) rfl) rfl rfl ?_
    refine qr_geta (n := 234) 0 69 46 (dkX12_count (i := 105) rfl) rfl lmO rfl gnX12 (Nat.le_of_ble_eq_true rfl) kfX12_155 rfl ?_
    refine qr_iconst (n := 235) 0 (dkX12_count (i := 106) rfl) rfl (by decide) ?_
    refine qr_zald (n := 236) 46 3 (dkX12_count (i := 107) rfl) rfl lmA_46 ?_
    refine qr_j (fun K_2 : Int32 → Option (qv_St × Int32) => ∀ (t_1 : Int32), VV G Lm X RX12 cX12_count 4 (some .int) 7 qe_m 244 [(0, .ref (G.2.2.1 0))] [.int t_1] S_1 (K_2 t_1)) (fun t_1 => ?_) (fun K_2 hK_2 => ?_)
    · refine qr_aload_n (n := 245) 0 (dkX12_count (i := 112) rfl) rfl rfl ?_
      refine qr_geta (n := 248) 0 69 46 (dkX12_count (i := 113) rfl) rfl lmO rfl gnX12 (Nat.le_of_ble_eq_true rfl) kfX12_155 rfl ?_
      refine qr_iconst (n := 249) 1 (dkX12_count (i := 114) rfl) rfl (by decide) ?_
      refine qr_zald (n := 250) 46 3 (dkX12_count (i := 115) rfl) rfl lmA_46 ?_
      refine qr_j (fun K_3 : Int32 → Option (qv_St × Int32) => ∀ (t_2 : Int32), VV G Lm X RX12 cX12_count 4 (some .int) 7 qe_m 258 [(0, .ref (G.2.2.1 0))] [.int t_2, .int t_1] S_1 (K_3 t_2)) (fun t_2 => ?_) (fun K_3 hK_3 => ?_)
      · refine qr_iadd (n := 259) (dkX12_count (i := 120) rfl) rfl ?_
        refine qr_aload_n (n := 260) 0 (dkX12_count (i := 121) rfl) rfl rfl ?_
        refine qr_geta (n := 263) 0 69 46 (dkX12_count (i := 122) rfl) rfl lmO rfl gnX12 (Nat.le_of_ble_eq_true rfl) kfX12_155 rfl ?_
        refine qr_iconst (n := 264) 2 (dkX12_count (i := 123) rfl) rfl (by decide) ?_
        refine qr_zald (n := 265) 46 3 (dkX12_count (i := 124) rfl) rfl lmA_46 ?_
        refine qr_j (fun K_4 : Int32 → Option (qv_St × Int32) => ∀ (t_3 : Int32), VV G Lm X RX12 cX12_count 4 (some .int) 7 qe_m 273 [] [.int t_3, .int (t_1 + t_2)] S_1 (K_4 t_3)) (fun t_3 => ?_) (fun K_4 hK_4 => ?_)
        · refine qr_iadd (n := 274) (dkX12_count (i := 129) rfl) rfl ?_
          exact qr_iret (dkX12_count (i := 130) rfl) rfl rfl
        · refine qr_if_eq (t := 272) (n := 268) (dkX12_count (i := 125) rfl) (by decide) rfl ?_ ?_
          · refine qr_iconst (n := 273) 0 (dkX12_count (i := 128) rfl) rfl (by decide) ?_
            refine qr_sub [] rfl ?_
            exact hK_4 0
          · refine qr_iconst (n := 269) 1 (dkX12_count (i := 126) rfl) rfl (by decide) ?_
            refine qr_goto (n := 273) (dkX12_count (i := 127) rfl) (by decide) ?_
            refine qr_sub [] rfl ?_
            exact hK_4 1
      · refine qr_if_eq (t := 257) (n := 253) (dkX12_count (i := 116) rfl) (by decide) rfl ?_ ?_
        · refine qr_iconst (n := 258) 0 (dkX12_count (i := 119) rfl) rfl (by decide) ?_
          exact hK_3 0
        · refine qr_iconst (n := 254) 1 (dkX12_count (i := 117) rfl) rfl (by decide) ?_
          refine qr_goto (n := 258) (dkX12_count (i := 118) rfl) (by decide) ?_
          exact hK_3 1
    · refine qr_if_eq (t := 243) (n := 239) (dkX12_count (i := 108) rfl) (by decide) rfl ?_ ?_
      · refine qr_iconst (n := 244) 0 (dkX12_count (i := 111) rfl) rfl (by decide) ?_
        refine qr_sub [0] rfl ?_
        exact hK_2 0
      · refine qr_iconst (n := 240) 1 (dkX12_count (i := 109) rfl) rfl (by decide) ?_
        refine qr_goto (n := 244) (dkX12_count (i := 110) rfl) (by decide) ?_
        refine qr_sub [0] rfl ?_
        exact hK_2 1
  · refine qr_iconst (n := 276) 0 (dkX12_count (i := 131) rfl) rfl (by decide) ?_
    refine qr_istore_n (n := 277) (lv2 := [(0, .ref (G.2.2.1 0)), (1, .int x1), (2, .int 0), (3, .int 0)]) [1, 2, 3, 0] (dkX12_count (i := 132) rfl) rfl rfl (by decide) rfl ?_
    refine qr_sub [0, 2, 3] rfl ?_
    refine qr_lp2 (fun (x2_6 : Int32) (x3_3 : Int32) => [(0, .ref (G.2.2.1 0)), (2, .int x2_6), (3, .int x3_3)]) (fun (x2_6 : Int32) (x3_3 : Int32) => S_1) (fun self_3 hself_3 x2_6 x3_3 => ?_) qv_N 0 0
    refine qr_iload_n (n := 278) 2 (dkX12_count (i := 133) rfl) rfl rfl ?_
    refine qr_aload_n (n := 279) 0 (dkX12_count (i := 134) rfl) rfl rfl ?_
    refine qr_geta (n := 282) 0 22 9 (dkX12_count (i := 135) rfl) rfl lmO rfl gnX12 (Nat.le_of_ble_eq_true rfl) kfX12_43 rfl ?_
    refine qr_aload_n (n := 283) 0 (dkX12_count (i := 136) rfl) rfl rfl ?_
    refine qr_geti (n := 286) 0 18 (dkX12_count (i := 137) rfl) rfl lmO rfl gnX12 (Nat.le_of_ble_eq_true rfl) kfX12_242 rfl ?_
    refine qr_iald (n := 287) 9 2 (dkX12_count (i := 138) rfl) rfl lmA_9 ?_
    refine qr_icmp_ge (t := 306) (n := 290) (dkX12_count (i := 139) rfl) (by decide) rfl ?_ ?_
    · refine qr_iload_n (n := 307) 1 (dkX12_count (i := 150) rfl) rfl rfl ?_
      exact qr_iret (dkX12_count (i := 151) rfl) rfl rfl
    · refine qr_iload_n (n := 291) 1 (dkX12_count (i := 140) rfl) rfl rfl ?_
      refine qr_aload_n (n := 292) 0 (dkX12_count (i := 141) rfl) rfl rfl ?_
      refine qr_iload_n (n := 293) 2 (dkX12_count (i := 142) rfl) rfl rfl ?_
      refine qr_cvi (n := 296) 0 [.int x3_3] (dkX12_count (i := 143) rfl) rfl kvX12_387 rfl rfl (Nat.le_of_ble_eq_true rfl) rfl rfl lmO rfl (wX12_isOn G S_1 x3_3) (fun r_2 => ?_)
      refine qr_iload_n (n := 297) 2 (dkX12_count (i := 144) rfl) rfl rfl ?_
      refine qr_ishl (n := 298) (dkX12_count (i := 145) rfl) rfl ?_
      refine qr_ior (n := 299) (dkX12_count (i := 146) rfl) rfl ?_
      refine qr_b (α := Int32) (x2_6 ||| (r_2 <<< (x3_3 &&& 31))) (lvf := fun _ => [(0, .ref (G.2.2.1 0)), (2, .int x2_6), (3, .int x3_3)]) (stf := fun z => .int z :: []) (Sf := fun _ => S_1) (fun x2_7 => ?_)
      refine qr_istore_n (n := 300) (lv2 := [(0, .ref (G.2.2.1 0)), (2, .int x2_7), (3, .int x3_3)]) [1, 0, 2] (dkX12_count (i := 147) rfl) rfl rfl (by decide) rfl ?_
      refine qr_iinc (n := 303) (v := 1) (lv2 := [(0, .ref (G.2.2.1 0)), (2, .int x2_7), (3, .int (x3_3 + 1))]) 2 [1, 2, 0] (dkX12_count (i := 148) rfl) rfl rfl (by decide) (by decide) rfl ?_
      refine qr_goto (n := 277) (dkX12_count (i := 149) rfl) (by decide) ?_
      exact hself_3 x2_7 (x3_3 + 1)
