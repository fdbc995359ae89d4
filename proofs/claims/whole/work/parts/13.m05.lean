def tbX12_best : List (Nat × Instr × Nat) := [(0, .aload_n 0, 1), (1, .iload_n 1, 1), (2, .invokevirtual 390, 3), (5, .ifCond .eq 12, 3), (8, .iload_n 2, 1), (9, .iconst 0, 1), (10, .iconst 1, 1), (11, .invokestatic 319, 3), (14, .ifCond .ne 5, 3), (17, .iconst (-1), 1), (18, .ireturn, 1), (19, .aload_n 0, 1), (20, .invokevirtual 384, 3), (23, .bipush (-2), 2), (25, .istore_n 3, 1), (26, .bipush (-2), 2), (28, .istore 4, 2), (30, .iconst 0, 1), (31, .istore 5, 2), (33, .iload 5, 2), (35, .aload_n 0, 1), (36, .getfield 65, 3), (39, .aload_n 0, 1), (40, .getfield 242, 3), (43, .iaload, 1), (44, .if_icmp .ge 75, 3), (47, .aload_n 0, 1), (48, .iload 5, 2), (50, .sipush 310, 3), (53, .invokevirtual 396, 3), (56, .aload_n 0, 1), (57, .iload_n 1, 1), (58, .iload 5, 2), (60, .aload_n 0, 1), (61, .getfield 128, 3), (64, .iconst 1, 1), (65, .iaload, 1), (66, .if_icmp .ne 7, 3), (69, .iconst 0, 1), (70, .goto 12, 3), (73, .aload_n 0, 1), (74, .getfield 80, 3), (77, .aload_n 0, 1), (78, .getfield 242, 3), (81, .iaload, 1), (82, .invokevirtual 423, 3), (85, .istore 6, 2), (87, .iload 6, 2), (89, .ifCond .lt 24, 3), (92, .iload_n 3, 1), (93, .ifCond .lt 13, 3), (96, .iload 6, 2), (98, .iload 4, 2), (100, .if_icmp .lt 6, 3), (103, .goto 10, 3), (106, .iload 5, 2), (108, .istore_n 3, 1), (109, .iload 6, 2), (111, .istore 4, 2), (113, .iinc 5 1, 3), (116, .goto (-83), 3), (119, .iload_n 2, 1), (120, .ifCond .ne 7, 3), (123, .iload_n 3, 1), (124, .goto 5, 3), (127, .iload 4, 2), (129, .ireturn, 1)]
set_option maxRecDepth 20000 in
theorem daX12_best : ∀ x ∈ tbX12_best, decode cX12_best x.1 = .ok x.2 := by decide +kernel
theorem dkX12_best {i pc n : Nat} {ins : Instr} (h : tbX12_best[i]? = some (pc, ins, n)) : decode cX12_best pc = .ok (ins, n) := daX12_best (pc, ins, n) (List.mem_of_getElem? h)
def fX12_best (S0 : qv_St) (x1 : Int32) (x2 : Int32) : Option (qv_St × Int32) :=
  (fX12_isShot S0 x1).bind fun r_1 =>
  if r_1 = 0 then
    some (S0, (-1))
  else
    (fX12_in x2 0 1).bind fun r_2 =>
    if r_2 = 0 then
      some (S0, (-1))
    else
      (fX12_copies S0).bind fun S_1 =>
      qv_j (fun (S_2 : qv_St) (x3_1 : Int32) (x4_1 : Int32) =>
        if x2 = 0 then
          some (S_2, x3_1)
        else
          some (S_2, x4_1)) fun K_1 =>
      qv_lp4 qv_N (fun self_1 (S_3 : qv_St) (x3_2 : Int32) (x4_2 : Int32) (x5_1 : Int32) =>
        qv_ck (S_3.1 0 18) 2 <|
        if (S_3.1 16 (Int32.toNatClampNeg (S_3.1 0 18))) ≤ x5_1 then
          K_1 S_3 x3_2 x4_2
        else
          (fX12_fillsLoud S_3 x5_1 310).bind fun S_4 =>
          qv_ck 1 32 <|
          qv_j (fun (t_1 : Int32) =>
            qv_cm (fX12_soonest S_4 x1 t_1) fun S_5 r_3 =>
            qv_j (fun (x3_3 : Int32) (x4_3 : Int32) =>
              self_1 S_5 x3_3 x4_3 (x5_1 + 1)) fun K_3 =>
            if r_3 < 0 then
              K_3 x3_2 x4_2
            else
              qv_j (
                K_3 x5_1 r_3) fun K_4 =>
              if x3_2 < 0 then
                K_4
              else
                if r_3 < x4_2 then
                  K_4
                else
                  K_3 x3_2 x4_2) fun K_2 =>
          if x5_1 = (S_4.1 37 (Int32.toNatClampNeg 1)) then
            K_2 0
          else
            qv_ck (S_4.1 0 18) 2 <|
            K_2 (S_4.1 21 (Int32.toNatClampNeg (S_4.1 0 18)))) S_1 (-2) (-2) 0
set_option maxRecDepth 20000 in
set_option maxHeartbeats 4000000 in
theorem wX12_best (G : qv_GT) (S0 : qv_St) (x1 : Int32) (x2 : Int32) : ∀ r, fX12_best S0 x1 x2 = some r → Cn G Lm yX12_best cX12_best 7 (some .int) 10 [.ref (G.2.2.1 0), .int x1, .int x2] S0 (qe_m r) := by
  refine cn_of (own := RX12) (emb := qe_m) (lv := [(0, .ref (G.2.2.1 0)), (1, .int x1), (2, .int x2)]) rfl rfl (Nat.le_of_ble_eq_true rfl) rfl (fun X => ?_)
  unfold fX12_best
  refine qr_aload_n (n := 1) 0 (dkX12_best (i := 0) rfl) rfl rfl ?_
  refine qr_iload_n (n := 2) 1 (dkX12_best (i := 1) rfl) rfl rfl ?_
  refine qr_cvi (n := 5) 0 [.int x1] (dkX12_best (i := 2) rfl) rfl kvX12_390 rfl rfl (Nat.le_of_ble_eq_true rfl) rfl rfl lmO rfl (wX12_isShot G S0 x1) (fun r_1 => ?_)
  refine qr_if_eq (t := 17) (n := 8) (dkX12_best (i := 3) rfl) (by decide) rfl ?_ ?_
  · refine qr_iconst (n := 18) (-1) (dkX12_best (i := 9) rfl) rfl (by decide) ?_
    exact qr_iret (dkX12_best (i := 10) rfl) rfl rfl
  · refine qr_iload_n (n := 9) 2 (dkX12_best (i := 4) rfl) rfl rfl ?_
    refine qr_iconst (n := 10) 0 (dkX12_best (i := 5) rfl) rfl (by decide) ?_
    refine qr_iconst (n := 11) 1 (dkX12_best (i := 6) rfl) rfl (by decide) ?_
    refine qr_csi (n := 14) [.int x2, .int 0, .int 1] (dkX12_best (i := 7) rfl) rfl kvX12_319 rfl rfl (Nat.le_of_ble_eq_true rfl) rfl rfl (wX12_in G S0 x2 0 1) (fun r_2 => ?_)
    refine qr_if_ne (t := 19) (n := 17) (dkX12_best (i := 8) rfl) (by decide) rfl ?_ ?_
    · refine qr_aload_n (n := 20) 0 (dkX12_best (i := 11) rfl) rfl rfl ?_
      refine qr_cvu (n := 23) 0 [] (dkX12_best (i := 12) rfl) rfl kvX12_384 rfl rfl (Nat.le_of_ble_eq_true rfl) rfl rfl lmO rfl (wX12_copies G S0) (fun S_1 => ?_)
      refine qr_bipush (n := 25) (-2) (dkX12_best (i := 13) rfl) rfl (by decide) ?_
      refine qr_istore_n (n := 26) (lv2 := [(0, .ref (G.2.2.1 0)), (1, .int x1), (2, .int x2), (3, .int (-2))]) [1, 2, 3, 0] (dkX12_best (i := 14) rfl) rfl rfl (by decide) rfl ?_
      refine qr_bipush (n := 28) (-2) (dkX12_best (i := 15) rfl) rfl (by decide) ?_
      refine qr_istore (n := 30) (lv2 := [(0, .ref (G.2.2.1 0)), (1, .int x1), (2, .int x2), (3, .int (-2)), (4, .int (-2))]) [1, 2, 3, 4, 0] (dkX12_best (i := 16) rfl) rfl (by decide) rfl ?_
      refine qr_iconst (n := 31) 0 (dkX12_best (i := 17) rfl) rfl (by decide) ?_
      refine qr_istore (n := 33) (lv2 := [(0, .ref (G.2.2.1 0)), (1, .int x1), (2, .int x2), (3, .int (-2)), (4, .int (-2)), (5, .int 0)]) [1, 2, 3, 4, 5, 0] (dkX12_best (i := 18) rfl) rfl (by decide) rfl ?_
      refine qr_j (fun K_1 : qv_St → Int32 → Int32 → Option (qv_St × Int32) => ∀ (S_2 : qv_St) (x3_1 : Int32) (x4_1 : Int32), VV G Lm X RX12 cX12_best 7 (some .int) 10 qe_m 119 [(2, .int x2), (3, .int x3_1), (4, .int x4_1)] [] S_2 (K_1 S_2 x3_1 x4_1)) (fun S_2 x3_1 x4_1 => ?_) (fun K_1 hK_1 => ?_)
      · refine qr_iload_n (n := 120) 0 (dkX12_best (i := 61) rfl) rfl rfl ?_
        refine qr_if_ne (t := 127) (n := 123) (dkX12_best (i := 62) rfl) (by decide) rfl ?_ ?_
        · refine qr_iload (n := 129) 2 (dkX12_best (i := 65) rfl) rfl rfl ?_
          exact qr_iret (dkX12_best (i := 66) rfl) rfl rfl
        · refine qr_iload_n (n := 124) 1 (dkX12_best (i := 63) rfl) rfl rfl ?_
          refine qr_goto (n := 129) (dkX12_best (i := 64) rfl) (by decide) ?_
          exact qr_iret (dkX12_best (i := 66) rfl) rfl rfl
      · refine qr_lp4 (fun (S_3 : qv_St) (x3_2 : Int32) (x4_2 : Int32) (x5_1 : Int32) => [(0, .ref (G.2.2.1 0)), (1, .int x1), (2, .int x2), (3, .int x3_2), (4, .int x4_2), (5, .int x5_1)]) (fun (S_3 : qv_St) (x3_2 : Int32) (x4_2 : Int32) (x5_1 : Int32) => S_3) (fun self_1 hself_1 S_3 x3_2 x4_2 x5_1 => ?_) qv_N S_1 (-2) (-2) 0
        refine qr_iload (n := 35) 5 (dkX12_best (i := 19) rfl) rfl rfl ?_
        refine qr_aload_n (n := 36) 0 (dkX12_best (i := 20) rfl) rfl rfl ?_
        refine qr_geta (n := 39) 0 29 16 (dkX12_best (i := 21) rfl) rfl lmO rfl gnX12 (Nat.le_of_ble_eq_true rfl) kfX12_65 rfl ?_
        refine qr_aload_n (n := 40) 0 (dkX12_best (i := 22) rfl) rfl rfl ?_
        refine qr_geti (n := 43) 0 18 (dkX12_best (i := 23) rfl) rfl lmO rfl gnX12 (Nat.le_of_ble_eq_true rfl) kfX12_242 rfl ?_
        refine qr_iald (n := 44) 16 2 (dkX12_best (i := 24) rfl) rfl lmA_16 ?_
        refine qr_icmp_ge (t := 119) (n := 47) (dkX12_best (i := 25) rfl) (by decide) rfl ?_ ?_
        · refine qr_sub [2, 3, 4] rfl ?_
          exact hK_1 S_3 x3_2 x4_2
        · refine qr_aload_n (n := 48) 0 (dkX12_best (i := 26) rfl) rfl rfl ?_
          refine qr_iload (n := 50) 5 (dkX12_best (i := 27) rfl) rfl rfl ?_
          refine qr_sipush (n := 53) 310 (dkX12_best (i := 28) rfl) rfl (by decide) ?_
          refine qr_cvu (n := 56) 0 [.int x5_1, .int 310] (dkX12_best (i := 29) rfl) rfl kvX12_396 rfl rfl (Nat.le_of_ble_eq_true rfl) rfl rfl lmO rfl (wX12_fillsLoud G S_3 x5_1 310) (fun S_4 => ?_)
          refine qr_aload_n (n := 57) 0 (dkX12_best (i := 30) rfl) rfl rfl ?_
          refine qr_iload_n (n := 58) 1 (dkX12_best (i := 31) rfl) rfl rfl ?_
          refine qr_iload (n := 60) 5 (dkX12_best (i := 32) rfl) rfl rfl ?_
          refine qr_aload_n (n := 61) 0 (dkX12_best (i := 33) rfl) rfl rfl ?_
          refine qr_geta (n := 64) 0 54 37 (dkX12_best (i := 34) rfl) rfl lmO rfl gnX12 (Nat.le_of_ble_eq_true rfl) kfX12_128 rfl ?_
          refine qr_iconst (n := 65) 1 (dkX12_best (i := 35) rfl) rfl (by decide) ?_
          refine qr_iald (n := 66) 37 32 (dkX12_best (i := 36) rfl) rfl lmA_37 ?_
          refine qr_j (fun K_2 : Int32 → Option (qv_St × Int32) => ∀ (t_1 : Int32), VV G Lm X RX12 cX12_best 7 (some .int) 10 qe_m 82 [(0, .ref (G.2.2.1 0)), (1, .int x1), (2, .int x2), (3, .int x3_2), (4, .int x4_2), (5, .int x5_1)] [.int t_1, .int x1, .ref (G.2.2.1 0)] S_4 (K_2 t_1)) (fun t_1 => ?_) (fun K_2 hK_2 => ?_)
          · refine qr_cvm (n := 85) 0 [.int x1, .int t_1] (dkX12_best (i := 45) rfl) rfl kvX12_423 rfl rfl (Nat.le_of_ble_eq_true rfl) rfl rfl lmO rfl (wX12_soonest G S_4 x1 t_1) (fun S_5 r_3 => ?_)
            refine qr_istore (n := 87) (lv2 := [(0, .ref (G.2.2.1 0)), (1, .int x1), (2, .int x2), (3, .int x3_2), (4, .int x4_2), (5, .int x5_1), (6, .int r_3)]) [1, 2, 3, 4, 5, 6, 0] (dkX12_best (i := 46) rfl) rfl (by decide) rfl ?_
            refine qr_iload (n := 89) 6 (dkX12_best (i := 47) rfl) rfl rfl ?_
            refine qr_j (fun K_3 : Int32 → Int32 → Option (qv_St × Int32) => ∀ (x3_3 : Int32) (x4_3 : Int32), VV G Lm X RX12 cX12_best 7 (some .int) 10 qe_m 113 [(0, .ref (G.2.2.1 0)), (1, .int x1), (2, .int x2), (3, .int x3_3), (4, .int x4_3), (5, .int x5_1)] [] S_5 (K_3 x3_3 x4_3)) (fun x3_3 x4_3 => ?_) (fun K_3 hK_3 => ?_)
            · refine qr_iinc (n := 116) (v := 1) (lv2 := [(0, .ref (G.2.2.1 0)), (1, .int x1), (2, .int x2), (3, .int x3_3), (4, .int x4_3), (5, .int (x5_1 + 1))]) 5 [1, 2, 3, 4, 5, 0] (dkX12_best (i := 59) rfl) rfl rfl (by decide) (by decide) rfl ?_
              refine qr_goto (n := 33) (dkX12_best (i := 60) rfl) (by decide) ?_
              exact hself_1 S_5 x3_3 x4_3 (x5_1 + 1)
            · refine qr_if_lt (t := 113) (n := 92) (dkX12_best (i := 48) rfl) (by decide) rfl ?_ ?_
              · refine qr_sub [0, 1, 2, 3, 4, 5] rfl ?_
                exact hK_3 x3_2 x4_2
              · refine qr_iload_n (n := 93) 3 (dkX12_best (i := 49) rfl) rfl rfl ?_
                refine qr_j (fun K_4 : Option (qv_St × Int32) => VV G Lm X RX12 cX12_best 7 (some .int) 10 qe_m 106 [(0, .ref (G.2.2.1 0)), (1, .int x1), (2, .int x2), (5, .int x5_1), (6, .int r_3)] [] S_5 (K_4)) (?_) (fun K_4 hK_4 => ?_)
                · refine qr_iload (n := 108) 3 (dkX12_best (i := 55) rfl) rfl rfl ?_
                  refine qr_istore_n (n := 109) (lv2 := [(0, .ref (G.2.2.1 0)), (1, .int x1), (2, .int x2), (3, .int x5_1), (5, .int x5_1), (6, .int r_3)]) [1, 2, 3, 0, 4, 5] (dkX12_best (i := 56) rfl) rfl rfl (by decide) rfl ?_
                  refine qr_iload (n := 111) 5 (dkX12_best (i := 57) rfl) rfl rfl ?_
                  refine qr_istore (n := 113) (lv2 := [(0, .ref (G.2.2.1 0)), (1, .int x1), (2, .int x2), (3, .int x5_1), (4, .int r_3), (5, .int x5_1), (6, .int r_3)]) [1, 2, 3, 4, 0, 5, 6] (dkX12_best (i := 58) rfl) rfl (by decide) rfl ?_
                  refine qr_sub [0, 1, 2, 3, 4, 5] rfl ?_
                  exact hK_3 x5_1 r_3
                · refine qr_if_lt (t := 106) (n := 96) (dkX12_best (i := 50) rfl) (by decide) rfl ?_ ?_
                  · refine qr_sub [0, 1, 2, 5, 6] rfl ?_
                    exact hK_4
                  · refine qr_iload (n := 98) 6 (dkX12_best (i := 51) rfl) rfl rfl ?_
                    refine qr_iload (n := 100) 4 (dkX12_best (i := 52) rfl) rfl rfl ?_
                    refine qr_icmp_lt (t := 106) (n := 103) (dkX12_best (i := 53) rfl) (by decide) rfl ?_ ?_
                    · refine qr_sub [0, 1, 2, 5, 6] rfl ?_
                      exact hK_4
                    · refine qr_goto (n := 113) (dkX12_best (i := 54) rfl) (by decide) ?_
                      refine qr_sub [0, 1, 2, 3, 4, 5] rfl ?_
                      exact hK_3 x3_2 x4_2
          · refine qr_icmp_ne (t := 73) (n := 69) (dkX12_best (i := 37) rfl) (by decide) rfl ?_ ?_
            · refine qr_aload_n (n := 74) 0 (dkX12_best (i := 40) rfl) rfl rfl ?_
              refine qr_geta (n := 77) 0 34 21 (dkX12_best (i := 41) rfl) rfl lmO rfl gnX12 (Nat.le_of_ble_eq_true rfl) kfX12_80 rfl ?_
              refine qr_aload_n (n := 78) 0 (dkX12_best (i := 42) rfl) rfl rfl ?_
              refine qr_geti (n := 81) 0 18 (dkX12_best (i := 43) rfl) rfl lmO rfl gnX12 (Nat.le_of_ble_eq_true rfl) kfX12_242 rfl ?_
              refine qr_iald (n := 82) 21 2 (dkX12_best (i := 44) rfl) rfl lmA_21 ?_
              exact hK_2 (S_4.1 21 (Int32.toNatClampNeg (S_4.1 0 18)))
            · refine qr_iconst (n := 70) 0 (dkX12_best (i := 38) rfl) rfl (by decide) ?_
              refine qr_goto (n := 82) (dkX12_best (i := 39) rfl) (by decide) ?_
              exact hK_2 0
    · refine qr_iconst (n := 18) (-1) (dkX12_best (i := 9) rfl) rfl (by decide) ?_
      exact qr_iret (dkX12_best (i := 10) rfl) rfl rfl
def tbX12_findsDue : List (Nat × Instr × Nat) := [(0, .aload_n 0, 1), (1, .invokevirtual 384, 3), (4, .aload_n 0, 1), (5, .iconst 0, 1), (6, .putfield 426, 3), (9, .iconst 0, 1), (10, .istore_n 1, 1), (11, .iload_n 1, 1), (12, .aload_n 0, 1), (13, .getfield 71, 3), (16, .aload_n 0, 1), (17, .getfield 242, 3), (20, .iaload, 1), (21, .if_icmp .ge 57, 3), (24, .aload_n 0, 1), (25, .iload_n 1, 1), (26, .aload_n 0, 1), (27, .getfield 128, 3), (30, .bipush 12, 2), (32, .iload_n 1, 1), (33, .iadd, 1), (34, .iaload, 1), (35, .invokevirtual 377, 3), (38, .ifCond .ne 34, 3), (41, .aload_n 0, 1), (42, .getfield 426, 3), (45, .iconst 5, 1), (46, .if_icmp .ne 6, 3), (49, .goto 23, 3), (52, .aload_n 0, 1), (53, .getfield 137, 3), (56, .aload_n 0, 1), (57, .getfield 426, 3), (60, .iload_n 1, 1), (61, .iastore, 1), (62, .aload_n 0, 1), (63, .dup, 1), (64, .getfield 426, 3), (67, .iconst 1, 1), (68, .iadd, 1), (69, .putfield 426, 3), (72, .iinc 1 1, 3), (75, .goto (-64), 3), (78, .return_, 1)]
set_option maxRecDepth 20000 in
theorem daX12_findsDue : ∀ x ∈ tbX12_findsDue, decode cX12_findsDue x.1 = .ok x.2 := by decide +kernel
theorem dkX12_findsDue {i pc n : Nat} {ins : Instr} (h : tbX12_findsDue[i]? = some (pc, ins, n)) : decode cX12_findsDue pc = .ok (ins, n) := daX12_findsDue (pc, ins, n) (List.mem_of_getElem? h)
def fX12_findsDue (S0 : qv_St) : Option qv_St :=
  (fX12_copies S0).bind fun S_1 =>
  qv_b (qv_si S_1 0 60 0) fun S_2 =>
  qv_lp2 qv_N (fun self_1 (S_3 : qv_St) (x1_1 : Int32) =>
    qv_ck (S_3.1 0 18) 2 <|
    if (S_3.1 18 (Int32.toNatClampNeg (S_3.1 0 18))) ≤ x1_1 then
      some S_3
    else
      qv_ck (12 + x1_1) 32 <|
      (fX12_isWhole S_3 x1_1 (S_3.1 37 (Int32.toNatClampNeg (12 + x1_1)))).bind fun r_1 =>
      qv_j (fun (S_4 : qv_St) =>
        self_1 S_4 (x1_1 + 1)) fun K_1 =>
      if r_1 = 0 then
        if (S_3.1 0 60) = 5 then
          K_1 S_3
        else
          qv_ck (S_3.1 0 60) 5 <| qv_b (qv_si S_3 40 (Int32.toNatClampNeg (S_3.1 0 60)) x1_1) fun S_5 =>
          qv_b (qv_si S_5 0 60 ((S_5.1 0 60) + 1)) fun S_6 =>
          K_1 S_6
      else
        K_1 S_3) S_2 0
set_option maxRecDepth 20000 in
set_option maxHeartbeats 4000000 in
theorem wX12_findsDue (G : qv_GT) (S0 : qv_St) : ∀ r, fX12_findsDue S0 = some r → Cn G Lm yX12_findsDue cX12_findsDue 2 none 3 [.ref (G.2.2.1 0)] S0 (qe_u r) := by
  refine cn_of (own := RX12) (emb := qe_u) (lv := [(0, .ref (G.2.2.1 0))]) rfl rfl (Nat.le_of_ble_eq_true rfl) rfl (fun X => ?_)
  unfold fX12_findsDue
  refine qr_aload_n (n := 1) 0 (dkX12_findsDue (i := 0) rfl) rfl rfl ?_
  refine qr_cvu (n := 4) 0 [] (dkX12_findsDue (i := 1) rfl) rfl kvX12_384 rfl rfl (Nat.le_of_ble_eq_true rfl) rfl rfl lmO rfl (wX12_copies G S0) (fun S_1 => ?_)
  refine qr_aload_n (n := 5) 0 (dkX12_findsDue (i := 2) rfl) rfl rfl ?_
  refine qr_iconst (n := 6) 0 (dkX12_findsDue (i := 3) rfl) rfl (by decide) ?_
  refine qr_puti (n := 9) 0 60 (dkX12_findsDue (i := 4) rfl) rfl lmO rfl gnX12 (Nat.le_of_ble_eq_true rfl) kfX12_426 rfl tyX12_ok nmX12 rfl rfl (fun S_2 => ?_)
  refine qr_iconst (n := 10) 0 (dkX12_findsDue (i := 5) rfl) rfl (by decide) ?_
  refine qr_istore_n (n := 11) (lv2 := [(0, .ref (G.2.2.1 0)), (1, .int 0)]) [1, 0] (dkX12_findsDue (i := 6) rfl) rfl rfl (by decide) rfl ?_
  refine qr_lp2 (fun (S_3 : qv_St) (x1_1 : Int32) => [(0, .ref (G.2.2.1 0)), (1, .int x1_1)]) (fun (S_3 : qv_St) (x1_1 : Int32) => S_3) (fun self_1 hself_1 S_3 x1_1 => ?_) qv_N S_2 0
  refine qr_iload_n (n := 12) 1 (dkX12_findsDue (i := 7) rfl) rfl rfl ?_
  refine qr_aload_n (n := 13) 0 (dkX12_findsDue (i := 8) rfl) rfl rfl ?_
  refine qr_geta (n := 16) 0 31 18 (dkX12_findsDue (i := 9) rfl) rfl lmO rfl gnX12 (Nat.le_of_ble_eq_true rfl) kfX12_71 rfl ?_
  refine qr_aload_n (n := 17) 0 (dkX12_findsDue (i := 10) rfl) rfl rfl ?_
  refine qr_geti (n := 20) 0 18 (dkX12_findsDue (i := 11) rfl) rfl lmO rfl gnX12 (Nat.le_of_ble_eq_true rfl) kfX12_242 rfl ?_
  refine qr_iald (n := 21) 18 2 (dkX12_findsDue (i := 12) rfl) rfl lmA_18 ?_
  refine qr_icmp_ge (t := 78) (n := 24) (dkX12_findsDue (i := 13) rfl) (by decide) rfl ?_ ?_
  · exact qr_vret (dkX12_findsDue (i := 43) rfl) rfl rfl
  · refine qr_aload_n (n := 25) 0 (dkX12_findsDue (i := 14) rfl) rfl rfl ?_
    refine qr_iload_n (n := 26) 1 (dkX12_findsDue (i := 15) rfl) rfl rfl ?_
    refine qr_aload_n (n := 27) 0 (dkX12_findsDue (i := 16) rfl) rfl rfl ?_
    refine qr_geta (n := 30) 0 54 37 (dkX12_findsDue (i := 17) rfl) rfl lmO rfl gnX12 (Nat.le_of_ble_eq_true rfl) kfX12_128 rfl ?_
    refine qr_bipush (n := 32) 12 (dkX12_findsDue (i := 18) rfl) rfl (by decide) ?_
    refine qr_iload_n (n := 33) 1 (dkX12_findsDue (i := 19) rfl) rfl rfl ?_
    refine qr_iadd (n := 34) (dkX12_findsDue (i := 20) rfl) rfl ?_
    refine qr_iald (n := 35) 37 32 (dkX12_findsDue (i := 21) rfl) rfl lmA_37 ?_
    refine qr_cvi (n := 38) 0 [.int x1_1, .int (S_3.1 37 (Int32.toNatClampNeg (12 + x1_1)))] (dkX12_findsDue (i := 22) rfl) rfl kvX12_377 rfl rfl (Nat.le_of_ble_eq_true rfl) rfl rfl lmO rfl (wX12_isWhole G S_3 x1_1 (S_3.1 37 (Int32.toNatClampNeg (12 + x1_1)))) (fun r_1 => ?_)
    refine qr_j (fun K_1 : qv_St → Option qv_St => ∀ (S_4 : qv_St), VV G Lm X RX12 cX12_findsDue 2 none 3 qe_u 72 [(0, .ref (G.2.2.1 0)), (1, .int x1_1)] [] S_4 (K_1 S_4)) (fun S_4 => ?_) (fun K_1 hK_1 => ?_)
    · refine qr_iinc (n := 75) (v := 1) (lv2 := [(0, .ref (G.2.2.1 0)), (1, .int (x1_1 + 1))]) 1 [1, 0] (dkX12_findsDue (i := 41) rfl) rfl rfl (by decide) (by decide) rfl ?_
      refine qr_goto (n := 11) (dkX12_findsDue (i := 42) rfl) (by decide) ?_
      exact hself_1 S_4 (x1_1 + 1)
    · refine qr_if_ne (t := 72) (n := 41) (dkX12_findsDue (i := 23) rfl) (by decide) rfl ?_ ?_
      · exact hK_1 S_3
      · refine qr_aload_n (n := 42) 0 (dkX12_findsDue (i := 24) rfl) rfl rfl ?_
        refine qr_geti (n := 45) 0 60 (dkX12_findsDue (i := 25) rfl) rfl lmO rfl gnX12 (Nat.le_of_ble_eq_true rfl) kfX12_426 rfl ?_
        refine qr_iconst (n := 46) 5 (dkX12_findsDue (i := 26) rfl) rfl (by decide) ?_
        refine qr_icmp_ne (t := 52) (n := 49) (dkX12_findsDue (i := 27) rfl) (by decide) rfl ?_ ?_
        · refine qr_aload_n (n := 53) 0 (dkX12_findsDue (i := 29) rfl) rfl rfl ?_
          refine qr_geta (n := 56) 0 59 40 (dkX12_findsDue (i := 30) rfl) rfl lmO rfl gnX12 (Nat.le_of_ble_eq_true rfl) kfX12_137 rfl ?_
          refine qr_aload_n (n := 57) 0 (dkX12_findsDue (i := 31) rfl) rfl rfl ?_
          refine qr_geti (n := 60) 0 60 (dkX12_findsDue (i := 32) rfl) rfl lmO rfl gnX12 (Nat.le_of_ble_eq_true rfl) kfX12_426 rfl ?_
          refine qr_iload_n (n := 61) 1 (dkX12_findsDue (i := 33) rfl) rfl rfl ?_
          refine qr_iast (n := 62) 40 5 (dkX12_findsDue (i := 34) rfl) rfl lmA_40 (fun S_5 => ?_)
          refine qr_aload_n (n := 63) 0 (dkX12_findsDue (i := 35) rfl) rfl rfl ?_
          refine qr_dup (n := 64) (dkX12_findsDue (i := 36) rfl) rfl rfl ?_
          refine qr_geti (n := 67) 0 60 (dkX12_findsDue (i := 37) rfl) rfl lmO rfl gnX12 (Nat.le_of_ble_eq_true rfl) kfX12_426 rfl ?_
          refine qr_iconst (n := 68) 1 (dkX12_findsDue (i := 38) rfl) rfl (by decide) ?_
          refine qr_iadd (n := 69) (dkX12_findsDue (i := 39) rfl) rfl ?_
          refine qr_puti (n := 72) 0 60 (dkX12_findsDue (i := 40) rfl) rfl lmO rfl gnX12 (Nat.le_of_ble_eq_true rfl) kfX12_426 rfl tyX12_ok nmX12 rfl rfl (fun S_6 => ?_)
          exact hK_1 S_6
        · refine qr_goto (n := 72) (dkX12_findsDue (i := 28) rfl) (by decide) ?_
          exact hK_1 S_3
def tbX12_fillsDue : List (Nat × Instr × Nat) := [(0, .aload_n 0, 1), (1, .invokevirtual 429, 3), (4, .aload_n 0, 1), (5, .aload_n 0, 1), (6, .getfield 128, 3), (9, .iconst 1, 1), (10, .iaload, 1), (11, .sipush 1620, 3), (14, .invokevirtual 396, 3), (17, .iconst 0, 1), (18, .istore_n 1, 1), (19, .iload_n 1, 1), (20, .aload_n 0, 1), (21, .getfield 426, 3), (24, .if_icmp .ge 71, 3), (27, .iconst (-1), 1), (28, .istore_n 2, 1), (29, .sipush 1610, 3), (32, .istore_n 3, 1), (33, .iload_n 3, 1), (34, .ifCond .lt 55, 3), (37, .aload_n 0, 1), (38, .aload_n 0, 1), (39, .getfield 137, 3), (42, .iload_n 1, 1), (43, .iaload, 1), (44, .iload_n 3, 1), (45, .invokevirtual 420, 3), (48, .ifCond .eq 5, 3), (51, .iload_n 3, 1), (52, .istore_n 2, 1), (53, .aload_n 0, 1), (54, .getfield 140, 3), (57, .sipush 1620, 3), (60, .iload_n 1, 1), (61, .imul, 1), (62, .iload_n 3, 1), (63, .iadd, 1), (64, .iload_n 2, 1), (65, .ifCond .lt 16, 3), (68, .iload_n 2, 1), (69, .iload_n 3, 1), (70, .sipush 300, 3), (73, .iadd, 1), (74, .if_icmp .gt 7, 3), (77, .iload_n 2, 1), (78, .goto 4, 3), (81, .iconst (-1), 1), (82, .iastore, 1), (83, .iinc 3 (-1), 3), (86, .goto (-53), 3), (89, .iinc 1 1, 3), (92, .goto (-73), 3), (95, .return_, 1)]
set_option maxRecDepth 20000 in
theorem daX12_fillsDue : ∀ x ∈ tbX12_fillsDue, decode cX12_fillsDue x.1 = .ok x.2 := by decide +kernel
theorem dkX12_fillsDue {i pc n : Nat} {ins : Instr} (h : tbX12_fillsDue[i]? = some (pc, ins, n)) : decode cX12_fillsDue pc = .ok (ins, n) := daX12_fillsDue (pc, ins, n) (List.mem_of_getElem? h)
def fX12_fillsDue (S0 : qv_St) : Option qv_St :=
  (fX12_findsDue S0).bind fun S_1 =>
  qv_ck 1 32 <|
  (fX12_fillsLoud S_1 (S_1.1 37 (Int32.toNatClampNeg 1)) 1620).bind fun S_2 =>
  qv_lp2 qv_N (fun self_1 (S_3 : qv_St) (x1_1 : Int32) =>
    if (S_3.1 0 60) ≤ x1_1 then
      some S_3
    else
      qv_j (fun (S_4 : qv_St) =>
        self_1 S_4 (x1_1 + 1)) fun K_1 =>
      qv_lp3 qv_N (fun self_2 (S_5 : qv_St) (x2_1 : Int32) (x3_1 : Int32) =>
        if x3_1 < 0 then
          K_1 S_5
        else
          qv_ck x1_1 5 <|
          qv_cm (fX12_isGood S_5 (S_5.1 40 (Int32.toNatClampNeg x1_1)) x3_1) fun S_6 r_1 =>
          qv_j (fun (x2_2 : Int32) =>
            qv_j (fun (t_1 : Int32) =>
              qv_ck ((1620 * x1_1) + x3_1) 8100 <| qv_b (qv_si S_6 41 (Int32.toNatClampNeg ((1620 * x1_1) + x3_1)) t_1) fun S_7 =>
              self_2 S_7 x2_2 (x3_1 + (-1))) fun K_3 =>
            qv_j (
              K_3 (-1)) fun K_4 =>
            if x2_2 < 0 then
              K_4
            else
              if (x3_1 + 300) < x2_2 then
                K_4
              else
                K_3 x2_2) fun K_2 =>
          if r_1 = 0 then
            K_2 x2_1
          else
            K_2 x3_1) S_3 (-1) 1610) S_2 0
set_option maxRecDepth 20000 in
set_option maxHeartbeats 4000000 in
theorem wX12_fillsDue (G : qv_GT) (S0 : qv_St) : ∀ r, fX12_fillsDue S0 = some r → Cn G Lm yX12_fillsDue cX12_fillsDue 4 none 10 [.ref (G.2.2.1 0)] S0 (qe_u r) := by
  refine cn_of (own := RX12) (emb := qe_u) (lv := [(0, .ref (G.2.2.1 0))]) rfl rfl (Nat.le_of_ble_eq_true rfl) rfl (fun X => ?_)
  unfold fX12_fillsDue
  refine qr_aload_n (n := 1) 0 (dkX12_fillsDue (i := 0) rfl) rfl rfl ?_
  refine qr_cvu (n := 4) 0 [] (dkX12_fillsDue (i := 1) rfl) rfl kvX12_429 rfl rfl (Nat.le_of_ble_eq_true rfl) rfl rfl lmO rfl (wX12_findsDue G S0) (fun S_1 => ?_)
  refine qr_aload_n (n := 5) 0 (dkX12_fillsDue (i := 2) rfl) rfl rfl ?_
  refine qr_aload_n (n := 6) 0 (dkX12_fillsDue (i := 3) rfl) rfl rfl ?_
  refine qr_geta (n := 9) 0 54 37 (dkX12_fillsDue (i := 4) rfl) rfl lmO rfl gnX12 (Nat.le_of_ble_eq_true rfl) kfX12_128 rfl ?_
  refine qr_iconst (n := 10) 1 (dkX12_fillsDue (i := 5) rfl) rfl (by decide) ?_
  refine qr_iald (n := 11) 37 32 (dkX12_fillsDue (i := 6) rfl) rfl lmA_37 ?_
  refine qr_sipush (n := 14) 1620 (dkX12_fillsDue (i := 7) rfl) rfl (by decide) ?_
  refine qr_cvu (n := 17) 0 [.int (S_1.1 37 (Int32.toNatClampNeg 1)), .int 1620] (dkX12_fillsDue (i := 8) rfl) rfl kvX12_396 rfl rfl (Nat.le_of_ble_eq_true rfl) rfl rfl lmO rfl (wX12_fillsLoud G S_1 (S_1.1 37 (Int32.toNatClampNeg 1)) 1620) (fun S_2 => ?_)
  refine qr_iconst (n := 18) 0 (dkX12_fillsDue (i := 9) rfl) rfl (by decide) ?_
  refine qr_istore_n (n := 19) (lv2 := [(0, .ref (G.2.2.1 0)), (1, .int 0)]) [1, 0] (dkX12_fillsDue (i := 10) rfl) rfl rfl (by decide) rfl ?_
  refine qr_lp2 (fun (S_3 : qv_St) (x1_1 : Int32) => [(0, .ref (G.2.2.1 0)), (1, .int x1_1)]) (fun (S_3 : qv_St) (x1_1 : Int32) => S_3) (fun self_1 hself_1 S_3 x1_1 => ?_) qv_N S_2 0
  refine qr_iload_n (n := 20) 1 (dkX12_fillsDue (i := 11) rfl) rfl rfl ?_
  refine qr_aload_n (n := 21) 0 (dkX12_fillsDue (i := 12) rfl) rfl rfl ?_
  refine qr_geti (n := 24) 0 60 (dkX12_fillsDue (i := 13) rfl) rfl lmO rfl gnX12 (Nat.le_of_ble_eq_true rfl) kfX12_426 rfl ?_
  refine qr_icmp_ge (t := 95) (n := 27) (dkX12_fillsDue (i := 14) rfl) (by decide) rfl ?_ ?_
  · exact qr_vret (dkX12_fillsDue (i := 53) rfl) rfl rfl
  · refine qr_iconst (n := 28) (-1) (dkX12_fillsDue (i := 15) rfl) rfl (by decide) ?_
    refine qr_istore_n (n := 29) (lv2 := [(0, .ref (G.2.2.1 0)), (1, .int x1_1), (2, .int (-1))]) [1, 2, 0] (dkX12_fillsDue (i := 16) rfl) rfl rfl (by decide) rfl ?_
    refine qr_sipush (n := 32) 1610 (dkX12_fillsDue (i := 17) rfl) rfl (by decide) ?_
    refine qr_istore_n (n := 33) (lv2 := [(0, .ref (G.2.2.1 0)), (1, .int x1_1), (2, .int (-1)), (3, .int 1610)]) [1, 2, 3, 0] (dkX12_fillsDue (i := 18) rfl) rfl rfl (by decide) rfl ?_
    refine qr_j (fun K_1 : qv_St → Option qv_St => ∀ (S_4 : qv_St), VV G Lm X RX12 cX12_fillsDue 4 none 10 qe_u 89 [(0, .ref (G.2.2.1 0)), (1, .int x1_1)] [] S_4 (K_1 S_4)) (fun S_4 => ?_) (fun K_1 hK_1 => ?_)
    · refine qr_iinc (n := 92) (v := 1) (lv2 := [(0, .ref (G.2.2.1 0)), (1, .int (x1_1 + 1))]) 1 [1, 0] (dkX12_fillsDue (i := 51) rfl) rfl rfl (by decide) (by decide) rfl ?_
      refine qr_goto (n := 19) (dkX12_fillsDue (i := 52) rfl) (by decide) ?_
      exact hself_1 S_4 (x1_1 + 1)
    · refine qr_lp3 (fun (S_5 : qv_St) (x2_1 : Int32) (x3_1 : Int32) => [(0, .ref (G.2.2.1 0)), (1, .int x1_1), (2, .int x2_1), (3, .int x3_1)]) (fun (S_5 : qv_St) (x2_1 : Int32) (x3_1 : Int32) => S_5) (fun self_2 hself_2 S_5 x2_1 x3_1 => ?_) qv_N S_3 (-1) 1610
      refine qr_iload_n (n := 34) 3 (dkX12_fillsDue (i := 19) rfl) rfl rfl ?_
      refine qr_if_lt (t := 89) (n := 37) (dkX12_fillsDue (i := 20) rfl) (by decide) rfl ?_ ?_
      · refine qr_sub [0, 1] rfl ?_
        exact hK_1 S_5
      · refine qr_aload_n (n := 38) 0 (dkX12_fillsDue (i := 21) rfl) rfl rfl ?_
        refine qr_aload_n (n := 39) 0 (dkX12_fillsDue (i := 22) rfl) rfl rfl ?_
        refine qr_geta (n := 42) 0 59 40 (dkX12_fillsDue (i := 23) rfl) rfl lmO rfl gnX12 (Nat.le_of_ble_eq_true rfl) kfX12_137 rfl ?_
        refine qr_iload_n (n := 43) 1 (dkX12_fillsDue (i := 24) rfl) rfl rfl ?_
        refine qr_iald (n := 44) 40 5 (dkX12_fillsDue (i := 25) rfl) rfl lmA_40 ?_
        refine qr_iload_n (n := 45) 3 (dkX12_fillsDue (i := 26) rfl) rfl rfl ?_
        refine qr_cvm (n := 48) 0 [.int (S_5.1 40 (Int32.toNatClampNeg x1_1)), .int x3_1] (dkX12_fillsDue (i := 27) rfl) rfl kvX12_420 rfl rfl (Nat.le_of_ble_eq_true rfl) rfl rfl lmO rfl (wX12_isGood G S_5 (S_5.1 40 (Int32.toNatClampNeg x1_1)) x3_1) (fun S_6 r_1 => ?_)
        refine qr_j (fun K_2 : Int32 → Option qv_St => ∀ (x2_2 : Int32), VV G Lm X RX12 cX12_fillsDue 4 none 10 qe_u 53 [(0, .ref (G.2.2.1 0)), (1, .int x1_1), (2, .int x2_2), (3, .int x3_1)] [] S_6 (K_2 x2_2)) (fun x2_2 => ?_) (fun K_2 hK_2 => ?_)
        · refine qr_aload_n (n := 54) 0 (dkX12_fillsDue (i := 31) rfl) rfl rfl ?_
          refine qr_geta (n := 57) 0 61 41 (dkX12_fillsDue (i := 32) rfl) rfl lmO rfl gnX12 (Nat.le_of_ble_eq_true rfl) kfX12_140 rfl ?_
          refine qr_sipush (n := 60) 1620 (dkX12_fillsDue (i := 33) rfl) rfl (by decide) ?_
          refine qr_iload_n (n := 61) 1 (dkX12_fillsDue (i := 34) rfl) rfl rfl ?_
          refine qr_imul (n := 62) (dkX12_fillsDue (i := 35) rfl) rfl ?_
          refine qr_iload_n (n := 63) 3 (dkX12_fillsDue (i := 36) rfl) rfl rfl ?_
          refine qr_iadd (n := 64) (dkX12_fillsDue (i := 37) rfl) rfl ?_
          refine qr_iload_n (n := 65) 2 (dkX12_fillsDue (i := 38) rfl) rfl rfl ?_
          refine qr_j (fun K_3 : Int32 → Option qv_St => ∀ (t_1 : Int32), VV G Lm X RX12 cX12_fillsDue 4 none 10 qe_u 82 [(0, .ref (G.2.2.1 0)), (1, .int x1_1), (2, .int x2_2), (3, .int x3_1)] [.int t_1, .int ((1620 * x1_1) + x3_1), .ref (G.2.2.1 41)] S_6 (K_3 t_1)) (fun t_1 => ?_) (fun K_3 hK_3 => ?_)
          · refine qr_iast (n := 83) 41 8100 (dkX12_fillsDue (i := 48) rfl) rfl lmA_41 (fun S_7 => ?_)
            refine qr_iinc (n := 86) (v := (-1)) (lv2 := [(0, .ref (G.2.2.1 0)), (1, .int x1_1), (2, .int x2_2), (3, .int (x3_1 + (-1)))]) 3 [1, 2, 3, 0] (dkX12_fillsDue (i := 49) rfl) rfl rfl (by decide) (by decide) rfl ?_
            refine qr_goto (n := 33) (dkX12_fillsDue (i := 50) rfl) (by decide) ?_
            exact hself_2 S_7 x2_2 (x3_1 + (-1))
          · refine qr_j (fun K_4 : Option qv_St => VV G Lm X RX12 cX12_fillsDue 4 none 10 qe_u 81 [(0, .ref (G.2.2.1 0)), (1, .int x1_1), (2, .int x2_2), (3, .int x3_1)] [.int ((1620 * x1_1) + x3_1), .ref (G.2.2.1 41)] S_6 (K_4)) (?_) (fun K_4 hK_4 => ?_)
            · refine qr_iconst (n := 82) (-1) (dkX12_fillsDue (i := 47) rfl) rfl (by decide) ?_
              exact hK_3 (-1)
            · refine qr_if_lt (t := 81) (n := 68) (dkX12_fillsDue (i := 39) rfl) (by decide) rfl ?_ ?_
              · exact hK_4
              · refine qr_iload_n (n := 69) 2 (dkX12_fillsDue (i := 40) rfl) rfl rfl ?_
                refine qr_iload_n (n := 70) 3 (dkX12_fillsDue (i := 41) rfl) rfl rfl ?_
                refine qr_sipush (n := 73) 300 (dkX12_fillsDue (i := 42) rfl) rfl (by decide) ?_
                refine qr_iadd (n := 74) (dkX12_fillsDue (i := 43) rfl) rfl ?_
                refine qr_icmp_gt (t := 81) (n := 77) (dkX12_fillsDue (i := 44) rfl) (by decide) rfl ?_ ?_
                · exact hK_4
                · refine qr_iload_n (n := 78) 2 (dkX12_fillsDue (i := 45) rfl) rfl rfl ?_
                  refine qr_goto (n := 82) (dkX12_fillsDue (i := 46) rfl) (by decide) ?_
                  exact hK_3 x2_2
        · refine qr_if_eq (t := 53) (n := 51) (dkX12_fillsDue (i := 28) rfl) (by decide) rfl ?_ ?_
          · exact hK_2 x2_1
          · refine qr_iload_n (n := 52) 3 (dkX12_fillsDue (i := 29) rfl) rfl rfl ?_
            refine qr_istore_n (n := 53) (lv2 := [(0, .ref (G.2.2.1 0)), (1, .int x1_1), (2, .int x3_1), (3, .int x3_1)]) [1, 2, 0, 3] (dkX12_fillsDue (i := 30) rfl) rfl rfl (by decide) rfl ?_
            exact hK_2 x3_1
def tbX12_fives : List (Nat × Instr × Nat) := [(0, .iconst 1, 1), (1, .istore_n 1, 1), (2, .iconst 0, 1), (3, .istore_n 2, 1), (4, .iload_n 2, 1), (5, .iload_n 0, 1), (6, .if_icmp .ge 13, 3), (9, .iload_n 1, 1), (10, .iconst 5, 1), (11, .imul, 1), (12, .istore_n 1, 1), (13, .iinc 2 1, 3), (16, .goto (-12), 3), (19, .iload_n 1, 1), (20, .ireturn, 1)]
set_option maxRecDepth 20000 in
theorem daX12_fives : ∀ x ∈ tbX12_fives, decode cX12_fives x.1 = .ok x.2 := by decide +kernel
theorem dkX12_fives {i pc n : Nat} {ins : Instr} (h : tbX12_fives[i]? = some (pc, ins, n)) : decode cX12_fives pc = .ok (ins, n) := daX12_fives (pc, ins, n) (List.mem_of_getElem? h)
def fX12_fives (x0 : Int32) : Option Int32 :=
  qv_lp2 qv_N (fun self_1 (x1_1 : Int32) (x2_1 : Int32) =>
    if x0 ≤ x2_1 then
      some x1_1
    else
      qv_b ((x1_1 * 5) : Int32) fun x1_2 =>
      self_1 x1_2 (x2_1 + 1)) 1 0
set_option maxRecDepth 20000 in
set_option maxHeartbeats 4000000 in
theorem wX12_fives (G : qv_GT) (S0 : qv_St) (x0 : Int32) : ∀ r, fX12_fives x0 = some r → Cn G Lm yX12_fives cX12_fives 3 (some .int) 1 [.int x0] S0 ((qe_i S0) r) := by
  refine cn_of (own := RX12) (emb := (qe_i S0)) (lv := [(0, .int x0)]) rfl rfl (Nat.le_of_ble_eq_true rfl) rfl (fun X => ?_)
  unfold fX12_fives
  refine qr_iconst (n := 1) 1 (dkX12_fives (i := 0) rfl) rfl (by decide) ?_
  refine qr_istore_n (n := 2) (lv2 := [(0, .int x0), (1, .int 1)]) [1, 0] (dkX12_fives (i := 1) rfl) rfl rfl (by decide) rfl ?_
  refine qr_iconst (n := 3) 0 (dkX12_fives (i := 2) rfl) rfl (by decide) ?_
  refine qr_istore_n (n := 4) (lv2 := [(0, .int x0), (1, .int 1), (2, .int 0)]) [1, 2, 0] (dkX12_fives (i := 3) rfl) rfl rfl (by decide) rfl ?_
  refine qr_lp2 (fun (x1_1 : Int32) (x2_1 : Int32) => [(0, .int x0), (1, .int x1_1), (2, .int x2_1)]) (fun (x1_1 : Int32) (x2_1 : Int32) => S0) (fun self_1 hself_1 x1_1 x2_1 => ?_) qv_N 1 0
  refine qr_iload_n (n := 5) 2 (dkX12_fives (i := 4) rfl) rfl rfl ?_
  refine qr_iload_n (n := 6) 0 (dkX12_fives (i := 5) rfl) rfl rfl ?_
  refine qr_icmp_ge (t := 19) (n := 9) (dkX12_fives (i := 6) rfl) (by decide) rfl ?_ ?_
  · refine qr_iload_n (n := 20) 1 (dkX12_fives (i := 13) rfl) rfl rfl ?_
    exact qr_iret (dkX12_fives (i := 14) rfl) rfl rfl
  · refine qr_iload_n (n := 10) 1 (dkX12_fives (i := 7) rfl) rfl rfl ?_
    refine qr_iconst (n := 11) 5 (dkX12_fives (i := 8) rfl) rfl (by decide) ?_
    refine qr_imul (n := 12) (dkX12_fives (i := 9) rfl) rfl ?_
    refine qr_b (α := Int32) (x1_1 * 5) (lvf := fun _ => [(0, .int x0), (1, .int x1_1), (2, .int x2_1)]) (stf := fun z => .int z :: []) (Sf := fun _ => S0) (fun x1_2 => ?_)
    refine qr_istore_n (n := 13) (lv2 := [(0, .int x0), (1, .int x1_2), (2, .int x2_1)]) [1, 0, 2] (dkX12_fives (i := 10) rfl) rfl rfl (by decide) rfl ?_
    refine qr_iinc (n := 16) (v := 1) (lv2 := [(0, .int x0), (1, .int x1_2), (2, .int (x2_1 + 1))]) 2 [1, 2, 0] (dkX12_fives (i := 11) rfl) rfl rfl (by decide) (by decide) rfl ?_
    refine qr_goto (n := 4) (dkX12_fives (i := 12) rfl) (by decide) ?_
    exact hself_1 x1_2 (x2_1 + 1)
def tbX12_endBy : List (Nat × Instr × Nat) := [(0, .iconst 0, 1), (1, .istore_n 3, 1), (2, .iconst 0, 1), (3, .istore 4, 2), (5, .iload_n 2, 1), (6, .invokestatic 432, 3), (9, .istore 5, 2), (11, .iconst 0, 1), (12, .istore 6, 2), (14, .iload 6, 2), (16, .iload_n 2, 1), (17, .if_icmp .ge 90, 3), (20, .iload 5, 2), (22, .iconst 5, 1), (23, .idiv, 1), (24, .istore 5, 2), (26, .iload_n 1, 1), (27, .iload 5, 2), (29, .idiv, 1), (30, .iconst 5, 1), (31, .irem, 1), (32, .istore 7, 2), (34, .iload 7, 2), (36, .aload_n 0, 1), (37, .getfield 426, 3), (40, .if_icmp .ge 13, 3), (43, .iload_n 3, 1), (44, .iload 7, 2), (46, .ishr, 1), (47, .iconst 1, 1), (48, .iand, 1), (49, .iconst 1, 1), (50, .if_icmp .ne 5, 3), (53, .iconst (-1), 1), (54, .ireturn, 1), (55, .iload_n 3, 1), (56, .iconst 1, 1), (57, .iload 7, 2), (59, .ishl, 1), (60, .ior, 1), (61, .istore_n 3, 1), (62, .aload_n 0, 1), (63, .getfield 140, 3), (66, .sipush 1620, 3), (69, .iload 7, 2), (71, .imul, 1), (72, .iload 4, 2), (74, .iadd, 1), (75, .iaload, 1), (76, .istore 8, 2), (78, .iload 8, 2), (80, .ifCond .ge 5, 3), (83, .iconst (-1), 1), (84, .ireturn, 1), (85, .iload 8, 2), (87, .aload_n 0, 1), (88, .aload_n 0, 1), (89, .getfield 137, 3), (92, .iload 7, 2), (94, .iaload, 1), (95, .invokevirtual 368, 3), (98, .iadd, 1), (99, .istore 4, 2), (101, .iinc 6 1, 3), (104, .goto (-90), 3), (107, .iload 4, 2), (109, .ireturn, 1)]
set_option maxRecDepth 20000 in
theorem daX12_endBy : ∀ x ∈ tbX12_endBy, decode cX12_endBy x.1 = .ok x.2 := by decide +kernel
theorem dkX12_endBy {i pc n : Nat} {ins : Instr} (h : tbX12_endBy[i]? = some (pc, ins, n)) : decode cX12_endBy pc = .ok (ins, n) := daX12_endBy (pc, ins, n) (List.mem_of_getElem? h)
def fX12_endBy (S0 : qv_St) (x1 : Int32) (x2 : Int32) : Option Int32 :=
  (fX12_fives x2).bind fun r_1 =>
  qv_lp4 qv_N (fun self_1 (x3_1 : Int32) (x4_1 : Int32) (x5_1 : Int32) (x6_1 : Int32) =>
    if x2 ≤ x6_1 then
      some x4_1
    else
      qv_nz 5 <|
      qv_b ((x5_1 / 5) : Int32) fun x5_2 =>
      qv_nz x5_2 <|
      qv_nz 5 <|
      qv_b (((x1 / x5_2) - (x1 / x5_2) / 5 * 5) : Int32) fun x7_1 =>
      if (S0.1 0 60) ≤ x7_1 then
        some (-1)
      else
        if ((x3_1 >>> (x7_1 &&& 31)) &&& 1) = 1 then
          some (-1)
        else
          qv_b ((x3_1 ||| (1 <<< (x7_1 &&& 31))) : Int32) fun x3_2 =>
          qv_ck ((1620 * x7_1) + x4_1) 8100 <|
          qv_b ((S0.1 41 (Int32.toNatClampNeg ((1620 * x7_1) + x4_1))) : Int32) fun x8_1 =>
          if 0 ≤ x8_1 then
            qv_ck x7_1 5 <|
            (fX12_longFor S0 (S0.1 40 (Int32.toNatClampNeg x7_1))).bind fun r_2 =>
            qv_b ((x8_1 + r_2) : Int32) fun x4_2 =>
            self_1 x3_2 x4_2 x5_2 (x6_1 + 1)
          else
            some (-1)) 0 0 r_1 0
set_option maxRecDepth 20000 in
set_option maxHeartbeats 4000000 in
theorem wX12_endBy (G : qv_GT) (S0 : qv_St) (x1 : Int32) (x2 : Int32) : ∀ r, fX12_endBy S0 x1 x2 = some r → Cn G Lm yX12_endBy cX12_endBy 9 (some .int) 2 [.ref (G.2.2.1 0), .int x1, .int x2] S0 ((qe_i S0) r) := by
  refine cn_of (own := RX12) (emb := (qe_i S0)) (lv := [(0, .ref (G.2.2.1 0)), (1, .int x1), (2, .int x2)]) rfl rfl (Nat.le_of_ble_eq_true rfl) rfl (fun X => ?_)
  unfold fX12_endBy
  refine qr_iconst (n := 1) 0 (dkX12_endBy (i := 0) rfl) rfl (by decide) ?_
  refine qr_istore_n (n := 2) (lv2 := [(0, .ref (G.2.2.1 0)), (1, .int x1), (2, .int x2), (3, .int 0)]) [1, 2, 3, 0] (dkX12_endBy (i := 1) rfl) rfl rfl (by decide) rfl ?_
  refine qr_iconst (n := 3) 0 (dkX12_endBy (i := 2) rfl) rfl (by decide) ?_
  refine qr_istore (n := 5) (lv2 := [(0, .ref (G.2.2.1 0)), (1, .int x1), (2, .int x2), (3, .int 0), (4, .int 0)]) [1, 2, 3, 4, 0] (dkX12_endBy (i := 3) rfl) rfl (by decide) rfl ?_
  refine qr_iload_n (n := 6) 2 (dkX12_endBy (i := 4) rfl) rfl rfl ?_
  refine qr_csi (n := 9) [.int x2] (dkX12_endBy (i := 5) rfl) rfl kvX12_432 rfl rfl (Nat.le_of_ble_eq_true rfl) rfl rfl (wX12_fives G S0 x2) (fun r_1 => ?_)
  refine qr_istore (n := 11) (lv2 := [(0, .ref (G.2.2.1 0)), (1, .int x1), (2, .int x2), (3, .int 0), (4, .int 0), (5, .int r_1)]) [1, 2, 3, 4, 5, 0] (dkX12_endBy (i := 6) rfl) rfl (by decide) rfl ?_
  refine qr_iconst (n := 12) 0 (dkX12_endBy (i := 7) rfl) rfl (by decide) ?_
  refine qr_istore (n := 14) (lv2 := [(0, .ref (G.2.2.1 0)), (1, .int x1), (2, .int x2), (3, .int 0), (4, .int 0), (5, .int r_1), (6, .int 0)]) [1, 2, 3, 4, 5, 6, 0] (dkX12_endBy (i := 8) rfl) rfl (by decide) rfl ?_
  refine qr_lp4 (fun (x3_1 : Int32) (x4_1 : Int32) (x5_1 : Int32) (x6_1 : Int32) => [(0, .ref (G.2.2.1 0)), (1, .int x1), (2, .int x2), (3, .int x3_1), (4, .int x4_1), (5, .int x5_1), (6, .int x6_1)]) (fun (x3_1 : Int32) (x4_1 : Int32) (x5_1 : Int32) (x6_1 : Int32) => S0) (fun self_1 hself_1 x3_1 x4_1 x5_1 x6_1 => ?_) qv_N 0 0 r_1 0
  refine qr_iload (n := 16) 6 (dkX12_endBy (i := 9) rfl) rfl rfl ?_
  refine qr_iload_n (n := 17) 2 (dkX12_endBy (i := 10) rfl) rfl rfl ?_
  refine qr_icmp_ge (t := 107) (n := 20) (dkX12_endBy (i := 11) rfl) (by decide) rfl ?_ ?_
  · refine qr_iload (n := 109) 4 (dkX12_endBy (i := 65) rfl) rfl rfl ?_
    exact qr_iret (dkX12_endBy (i := 66) rfl) rfl rfl
  · refine qr_iload (n := 22) 5 (dkX12_endBy (i := 12) rfl) rfl rfl ?_
    refine qr_iconst (n := 23) 5 (dkX12_endBy (i := 13) rfl) rfl (by decide) ?_
    refine qr_idiv (n := 24) (dkX12_endBy (i := 14) rfl) rfl ?_
    refine qr_b (α := Int32) (x5_1 / 5) (lvf := fun _ => [(0, .ref (G.2.2.1 0)), (1, .int x1), (2, .int x2), (3, .int x3_1), (4, .int x4_1), (5, .int x5_1), (6, .int x6_1)]) (stf := fun z => .int z :: []) (Sf := fun _ => S0) (fun x5_2 => ?_)
    refine qr_istore (n := 26) (lv2 := [(0, .ref (G.2.2.1 0)), (1, .int x1), (2, .int x2), (3, .int x3_1), (4, .int x4_1), (5, .int x5_2), (6, .int x6_1)]) [1, 2, 3, 4, 5, 0, 6] (dkX12_endBy (i := 15) rfl) rfl (by decide) rfl ?_
    refine qr_iload_n (n := 27) 1 (dkX12_endBy (i := 16) rfl) rfl rfl ?_
    refine qr_iload (n := 29) 5 (dkX12_endBy (i := 17) rfl) rfl rfl ?_
    refine qr_idiv (n := 30) (dkX12_endBy (i := 18) rfl) rfl ?_
    refine qr_iconst (n := 31) 5 (dkX12_endBy (i := 19) rfl) rfl (by decide) ?_
    refine qr_irem (n := 32) (dkX12_endBy (i := 20) rfl) rfl ?_
    refine qr_b (α := Int32) ((x1 / x5_2) - (x1 / x5_2) / 5 * 5) (lvf := fun _ => [(0, .ref (G.2.2.1 0)), (1, .int x1), (2, .int x2), (3, .int x3_1), (4, .int x4_1), (5, .int x5_2), (6, .int x6_1)]) (stf := fun z => .int z :: []) (Sf := fun _ => S0) (fun x7_1 => ?_)
    refine qr_istore (n := 34) (lv2 := [(0, .ref (G.2.2.1 0)), (1, .int x1), (2, .int x2), (3, .int x3_1), (4, .int x4_1), (5, .int x5_2), (6, .int x6_1), (7, .int x7_1)]) [1, 2, 3, 4, 5, 6, 7, 0] (dkX12_endBy (i := 21) rfl) rfl (by decide) rfl ?_
    refine qr_iload (n := 36) 7 (dkX12_endBy (i := 22) rfl) rfl rfl ?_
    refine qr_aload_n (n := 37) 0 (dkX12_endBy (i := 23) rfl) rfl rfl ?_
    refine qr_geti (n := 40) 0 60 (dkX12_endBy (i := 24) rfl) rfl lmO rfl gnX12 (Nat.le_of_ble_eq_true rfl) kfX12_426 rfl ?_
    refine qr_icmp_ge (t := 53) (n := 43) (dkX12_endBy (i := 25) rfl) (by decide) rfl ?_ ?_
    · refine qr_iconst (n := 54) (-1) (dkX12_endBy (i := 33) rfl) rfl (by decide) ?_
      exact qr_iret (dkX12_endBy (i := 34) rfl) rfl rfl
    · refine qr_iload_n (n := 44) 3 (dkX12_endBy (i := 26) rfl) rfl rfl ?_
      refine qr_iload (n := 46) 7 (dkX12_endBy (i := 27) rfl) rfl rfl ?_
      refine qr_ishr (n := 47) (dkX12_endBy (i := 28) rfl) rfl ?_
      refine qr_iconst (n := 48) 1 (dkX12_endBy (i := 29) rfl) rfl (by decide) ?_
      refine qr_iand (n := 49) (dkX12_endBy (i := 30) rfl) rfl ?_
      refine qr_iconst (n := 50) 1 (dkX12_endBy (i := 31) rfl) rfl (by decide) ?_
      refine qr_icmp_ne (t := 55) (n := 53) (dkX12_endBy (i := 32) rfl) (by decide) rfl ?_ ?_
      · refine qr_iload_n (n := 56) 3 (dkX12_endBy (i := 35) rfl) rfl rfl ?_
        refine qr_iconst (n := 57) 1 (dkX12_endBy (i := 36) rfl) rfl (by decide) ?_
        refine qr_iload (n := 59) 7 (dkX12_endBy (i := 37) rfl) rfl rfl ?_
        refine qr_ishl (n := 60) (dkX12_endBy (i := 38) rfl) rfl ?_
        refine qr_ior (n := 61) (dkX12_endBy (i := 39) rfl) rfl ?_
        refine qr_b (α := Int32) (x3_1 ||| (1 <<< (x7_1 &&& 31))) (lvf := fun _ => [(0, .ref (G.2.2.1 0)), (1, .int x1), (2, .int x2), (3, .int x3_1), (4, .int x4_1), (5, .int x5_2), (6, .int x6_1), (7, .int x7_1)]) (stf := fun z => .int z :: []) (Sf := fun _ => S0) (fun x3_2 => ?_)
        refine qr_istore_n (n := 62) (lv2 := [(0, .ref (G.2.2.1 0)), (1, .int x1), (2, .int x2), (3, .int x3_2), (4, .int x4_1), (5, .int x5_2), (6, .int x6_1), (7, .int x7_1)]) [1, 2, 3, 0, 4, 5, 6, 7] (dkX12_endBy (i := 40) rfl) rfl rfl (by decide) rfl ?_
        refine qr_aload_n (n := 63) 0 (dkX12_endBy (i := 41) rfl) rfl rfl ?_
        refine qr_geta (n := 66) 0 61 41 (dkX12_endBy (i := 42) rfl) rfl lmO rfl gnX12 (Nat.le_of_ble_eq_true rfl) kfX12_140 rfl ?_
        refine qr_sipush (n := 69) 1620 (dkX12_endBy (i := 43) rfl) rfl (by decide) ?_
        refine qr_iload (n := 71) 7 (dkX12_endBy (i := 44) rfl) rfl rfl ?_
        refine qr_imul (n := 72) (dkX12_endBy (i := 45) rfl) rfl ?_
        refine qr_iload (n := 74) 4 (dkX12_endBy (i := 46) rfl) rfl rfl ?_
        refine qr_iadd (n := 75) (dkX12_endBy (i := 47) rfl) rfl ?_
        refine qr_iald (n := 76) 41 8100 (dkX12_endBy (i := 48) rfl) rfl lmA_41 ?_
        refine qr_b (α := Int32) (S0.1 41 (Int32.toNatClampNeg ((1620 * x7_1) + x4_1))) (lvf := fun _ => [(0, .ref (G.2.2.1 0)), (1, .int x1), (2, .int x2), (3, .int x3_2), (4, .int x4_1), (5, .int x5_2), (6, .int x6_1), (7, .int x7_1)]) (stf := fun z => .int z :: []) (Sf := fun _ => S0) (fun x8_1 => ?_)
        refine qr_istore (n := 78) (lv2 := [(0, .ref (G.2.2.1 0)), (1, .int x1), (2, .int x2), (3, .int x3_2), (4, .int x4_1), (5, .int x5_2), (6, .int x6_1), (7, .int x7_1), (8, .int x8_1)]) [1, 2, 3, 4, 5, 6, 7, 8, 0] (dkX12_endBy (i := 49) rfl) rfl (by decide) rfl ?_
        refine qr_iload (n := 80) 8 (dkX12_endBy (i := 50) rfl) rfl rfl ?_
        refine qr_if_ge (t := 85) (n := 83) (dkX12_endBy (i := 51) rfl) (by decide) rfl ?_ ?_
        · refine qr_iload (n := 87) 8 (dkX12_endBy (i := 54) rfl) rfl rfl ?_
          refine qr_aload_n (n := 88) 0 (dkX12_endBy (i := 55) rfl) rfl rfl ?_
          refine qr_aload_n (n := 89) 0 (dkX12_endBy (i := 56) rfl) rfl rfl ?_
          refine qr_geta (n := 92) 0 59 40 (dkX12_endBy (i := 57) rfl) rfl lmO rfl gnX12 (Nat.le_of_ble_eq_true rfl) kfX12_137 rfl ?_
          refine qr_iload (n := 94) 7 (dkX12_endBy (i := 58) rfl) rfl rfl ?_
          refine qr_iald (n := 95) 40 5 (dkX12_endBy (i := 59) rfl) rfl lmA_40 ?_
          refine qr_cvi (n := 98) 0 [.int (S0.1 40 (Int32.toNatClampNeg x7_1))] (dkX12_endBy (i := 60) rfl) rfl kvX12_368 rfl rfl (Nat.le_of_ble_eq_true rfl) rfl rfl lmO rfl (wX12_longFor G S0 (S0.1 40 (Int32.toNatClampNeg x7_1))) (fun r_2 => ?_)
          refine qr_iadd (n := 99) (dkX12_endBy (i := 61) rfl) rfl ?_
          refine qr_b (α := Int32) (x8_1 + r_2) (lvf := fun _ => [(0, .ref (G.2.2.1 0)), (1, .int x1), (2, .int x2), (3, .int x3_2), (4, .int x4_1), (5, .int x5_2), (6, .int x6_1), (7, .int x7_1), (8, .int x8_1)]) (stf := fun z => .int z :: []) (Sf := fun _ => S0) (fun x4_2 => ?_)
          refine qr_istore (n := 101) (lv2 := [(0, .ref (G.2.2.1 0)), (1, .int x1), (2, .int x2), (3, .int x3_2), (4, .int x4_2), (5, .int x5_2), (6, .int x6_1), (7, .int x7_1), (8, .int x8_1)]) [1, 2, 3, 4, 0, 5, 6, 7, 8] (dkX12_endBy (i := 62) rfl) rfl (by decide) rfl ?_
          refine qr_iinc (n := 104) (v := 1) (lv2 := [(0, .ref (G.2.2.1 0)), (1, .int x1), (2, .int x2), (3, .int x3_2), (4, .int x4_2), (5, .int x5_2), (6, .int (x6_1 + 1)), (7, .int x7_1), (8, .int x8_1)]) 6 [1, 2, 3, 4, 5, 6, 0, 7, 8] (dkX12_endBy (i := 63) rfl) rfl rfl (by decide) (by decide) rfl ?_
          refine qr_goto (n := 14) (dkX12_endBy (i := 64) rfl) (by decide) ?_
          refine qr_sub [0, 1, 2, 3, 4, 5, 6] rfl ?_
          exact hself_1 x3_2 x4_2 x5_2 (x6_1 + 1)
        · refine qr_iconst (n := 84) (-1) (dkX12_endBy (i := 52) rfl) rfl (by decide) ?_
          exact qr_iret (dkX12_endBy (i := 53) rfl) rfl rfl
      · refine qr_iconst (n := 54) (-1) (dkX12_endBy (i := 33) rfl) rfl (by decide) ?_
        exact qr_iret (dkX12_endBy (i := 34) rfl) rfl rfl
def tbX12_fillsOrder : List (Nat × Instr × Nat) := [(0, .aload_n 0, 1), (1, .invokevirtual 435, 3), (4, .aload_n 0, 1), (5, .iconst (-1), 1), (6, .putfield 438, 3), (9, .iconst 0, 1), (10, .istore_n 1, 1), (11, .iload_n 1, 1), (12, .aload_n 0, 1), (13, .getfield 426, 3), (16, .invokestatic 432, 3), (19, .if_icmp .ge 51, 3), (22, .aload_n 0, 1), (23, .iload_n 1, 1), (24, .aload_n 0, 1), (25, .getfield 426, 3), (28, .invokevirtual 441, 3), (31, .istore_n 2, 1), (32, .iload_n 2, 1), (33, .ifCond .lt 31, 3), (36, .aload_n 0, 1), (37, .getfield 438, 3), (40, .ifCond .lt 14, 3), (43, .iload_n 2, 1), (44, .aload_n 0, 1), (45, .getfield 444, 3), (48, .if_icmp .lt 6, 3), (51, .goto 13, 3), (54, .aload_n 0, 1), (55, .iload_n 2, 1), (56, .putfield 444, 3), (59, .aload_n 0, 1), (60, .iload_n 1, 1), (61, .putfield 438, 3), (64, .iinc 1 1, 3), (67, .goto (-56), 3), (70, .return_, 1)]
set_option maxRecDepth 20000 in
theorem daX12_fillsOrder : ∀ x ∈ tbX12_fillsOrder, decode cX12_fillsOrder x.1 = .ok x.2 := by decide +kernel
theorem dkX12_fillsOrder {i pc n : Nat} {ins : Instr} (h : tbX12_fillsOrder[i]? = some (pc, ins, n)) : decode cX12_fillsOrder pc = .ok (ins, n) := daX12_fillsOrder (pc, ins, n) (List.mem_of_getElem? h)
def fX12_fillsOrder (S0 : qv_St) : Option qv_St :=
  (fX12_fillsDue S0).bind fun S_1 =>
  qv_b (qv_si S_1 0 63 (-1)) fun S_2 =>
  qv_lp2 qv_N (fun self_1 (S_3 : qv_St) (x1_1 : Int32) =>
    (fX12_fives (S_3.1 0 60)).bind fun r_1 =>
    if r_1 ≤ x1_1 then
      some S_3
    else
      (fX12_endBy S_3 x1_1 (S_3.1 0 60)).bind fun r_2 =>
      qv_j (fun (S_4 : qv_St) =>
        self_1 S_4 (x1_1 + 1)) fun K_1 =>
      if r_2 < 0 then
        K_1 S_3
      else
        qv_j (
          qv_b (qv_si S_3 0 62 r_2) fun S_5 =>
          qv_b (qv_si S_5 0 63 x1_1) fun S_6 =>
          K_1 S_6) fun K_2 =>
        if (S_3.1 0 63) < 0 then
          K_2
        else
          if r_2 < (S_3.1 0 62) then
            K_2
          else
            K_1 S_3) S_2 0
set_option maxRecDepth 20000 in
set_option maxHeartbeats 4000000 in
theorem wX12_fillsOrder (G : qv_GT) (S0 : qv_St) : ∀ r, fX12_fillsOrder S0 = some r → Cn G Lm yX12_fillsOrder cX12_fillsOrder 3 none 11 [.ref (G.2.2.1 0)] S0 (qe_u r) := by
  refine cn_of (own := RX12) (emb := qe_u) (lv := [(0, .ref (G.2.2.1 0))]) rfl rfl (Nat.le_of_ble_eq_true rfl) rfl (fun X => ?_)
  unfold fX12_fillsOrder
  refine qr_aload_n (n := 1) 0 (dkX12_fillsOrder (i := 0) rfl) rfl rfl ?_
  refine qr_cvu (n := 4) 0 [] (dkX12_fillsOrder (i := 1) rfl) rfl kvX12_435 rfl rfl (Nat.le_of_ble_eq_true rfl) rfl rfl lmO rfl (wX12_fillsDue G S0) (fun S_1 => ?_)
  refine qr_aload_n (n := 5) 0 (dkX12_fillsOrder (i := 2) rfl) rfl rfl ?_
  refine qr_iconst (n := 6) (-1) (dkX12_fillsOrder (i := 3) rfl) rfl (by decide) ?_
  refine qr_puti (n := 9) 0 63 (dkX12_fillsOrder (i := 4) rfl) rfl lmO rfl gnX12 (Nat.le_of_ble_eq_true rfl) kfX12_438 rfl tyX12_ok nmX12 rfl rfl (fun S_2 => ?_)
  refine qr_iconst (n := 10) 0 (dkX12_fillsOrder (i := 5) rfl) rfl (by decide) ?_
  refine qr_istore_n (n := 11) (lv2 := [(0, .ref (G.2.2.1 0)), (1, .int 0)]) [1, 0] (dkX12_fillsOrder (i := 6) rfl) rfl rfl (by decide) rfl ?_
  refine qr_lp2 (fun (S_3 : qv_St) (x1_1 : Int32) => [(0, .ref (G.2.2.1 0)), (1, .int x1_1)]) (fun (S_3 : qv_St) (x1_1 : Int32) => S_3) (fun self_1 hself_1 S_3 x1_1 => ?_) qv_N S_2 0
  refine qr_iload_n (n := 12) 1 (dkX12_fillsOrder (i := 7) rfl) rfl rfl ?_
  refine qr_aload_n (n := 13) 0 (dkX12_fillsOrder (i := 8) rfl) rfl rfl ?_
  refine qr_geti (n := 16) 0 60 (dkX12_fillsOrder (i := 9) rfl) rfl lmO rfl gnX12 (Nat.le_of_ble_eq_true rfl) kfX12_426 rfl ?_
  refine qr_csi (n := 19) [.int (S_3.1 0 60)] (dkX12_fillsOrder (i := 10) rfl) rfl kvX12_432 rfl rfl (Nat.le_of_ble_eq_true rfl) rfl rfl (wX12_fives G S_3 (S_3.1 0 60)) (fun r_1 => ?_)
  refine qr_icmp_ge (t := 70) (n := 22) (dkX12_fillsOrder (i := 11) rfl) (by decide) rfl ?_ ?_
  · exact qr_vret (dkX12_fillsOrder (i := 36) rfl) rfl rfl
  · refine qr_aload_n (n := 23) 0 (dkX12_fillsOrder (i := 12) rfl) rfl rfl ?_
    refine qr_iload_n (n := 24) 1 (dkX12_fillsOrder (i := 13) rfl) rfl rfl ?_
    refine qr_aload_n (n := 25) 0 (dkX12_fillsOrder (i := 14) rfl) rfl rfl ?_
    refine qr_geti (n := 28) 0 60 (dkX12_fillsOrder (i := 15) rfl) rfl lmO rfl gnX12 (Nat.le_of_ble_eq_true rfl) kfX12_426 rfl ?_
    refine qr_cvi (n := 31) 0 [.int x1_1, .int (S_3.1 0 60)] (dkX12_fillsOrder (i := 16) rfl) rfl kvX12_441 rfl rfl (Nat.le_of_ble_eq_true rfl) rfl rfl lmO rfl (wX12_endBy G S_3 x1_1 (S_3.1 0 60)) (fun r_2 => ?_)
    refine qr_istore_n (n := 32) (lv2 := [(0, .ref (G.2.2.1 0)), (1, .int x1_1), (2, .int r_2)]) [1, 2, 0] (dkX12_fillsOrder (i := 17) rfl) rfl rfl (by decide) rfl ?_
    refine qr_iload_n (n := 33) 2 (dkX12_fillsOrder (i := 18) rfl) rfl rfl ?_
    refine qr_j (fun K_1 : qv_St → Option qv_St => ∀ (S_4 : qv_St), VV G Lm X RX12 cX12_fillsOrder 3 none 11 qe_u 64 [(0, .ref (G.2.2.1 0)), (1, .int x1_1)] [] S_4 (K_1 S_4)) (fun S_4 => ?_) (fun K_1 hK_1 => ?_)
    · refine qr_iinc (n := 67) (v := 1) (lv2 := [(0, .ref (G.2.2.1 0)), (1, .int (x1_1 + 1))]) 1 [1, 0] (dkX12_fillsOrder (i := 34) rfl) rfl rfl (by decide) (by decide) rfl ?_
      refine qr_goto (n := 11) (dkX12_fillsOrder (i := 35) rfl) (by decide) ?_
      exact hself_1 S_4 (x1_1 + 1)
    · refine qr_if_lt (t := 64) (n := 36) (dkX12_fillsOrder (i := 19) rfl) (by decide) rfl ?_ ?_
      · refine qr_sub [0, 1] rfl ?_
        exact hK_1 S_3
      · refine qr_aload_n (n := 37) 0 (dkX12_fillsOrder (i := 20) rfl) rfl rfl ?_
        refine qr_geti (n := 40) 0 63 (dkX12_fillsOrder (i := 21) rfl) rfl lmO rfl gnX12 (Nat.le_of_ble_eq_true rfl) kfX12_438 rfl ?_
        refine qr_j (fun K_2 : Option qv_St => VV G Lm X RX12 cX12_fillsOrder 3 none 11 qe_u 54 [(0, .ref (G.2.2.1 0)), (1, .int x1_1), (2, .int r_2)] [] S_3 (K_2)) (?_) (fun K_2 hK_2 => ?_)
        · refine qr_aload_n (n := 55) 0 (dkX12_fillsOrder (i := 28) rfl) rfl rfl ?_
          refine qr_iload_n (n := 56) 2 (dkX12_fillsOrder (i := 29) rfl) rfl rfl ?_
          refine qr_puti (n := 59) 0 62 (dkX12_fillsOrder (i := 30) rfl) rfl lmO rfl gnX12 (Nat.le_of_ble_eq_true rfl) kfX12_444 rfl tyX12_ok nmX12 rfl rfl (fun S_5 => ?_)
          refine qr_aload_n (n := 60) 0 (dkX12_fillsOrder (i := 31) rfl) rfl rfl ?_
          refine qr_iload_n (n := 61) 1 (dkX12_fillsOrder (i := 32) rfl) rfl rfl ?_
          refine qr_puti (n := 64) 0 63 (dkX12_fillsOrder (i := 33) rfl) rfl lmO rfl gnX12 (Nat.le_of_ble_eq_true rfl) kfX12_438 rfl tyX12_ok nmX12 rfl rfl (fun S_6 => ?_)
          refine qr_sub [0, 1] rfl ?_
          exact hK_1 S_6
        · refine qr_if_lt (t := 54) (n := 43) (dkX12_fillsOrder (i := 22) rfl) (by decide) rfl ?_ ?_
          · exact hK_2
          · refine qr_iload_n (n := 44) 2 (dkX12_fillsOrder (i := 23) rfl) rfl rfl ?_
            refine qr_aload_n (n := 45) 0 (dkX12_fillsOrder (i := 24) rfl) rfl rfl ?_
            refine qr_geti (n := 48) 0 62 (dkX12_fillsOrder (i := 25) rfl) rfl lmO rfl gnX12 (Nat.le_of_ble_eq_true rfl) kfX12_444 rfl ?_
            refine qr_icmp_lt (t := 54) (n := 51) (dkX12_fillsOrder (i := 26) rfl) (by decide) rfl ?_ ?_
            · exact hK_2
            · refine qr_goto (n := 64) (dkX12_fillsOrder (i := 27) rfl) (by decide) ?_
              refine qr_sub [0, 1] rfl ?_
              exact hK_1 S_3
def tbX12_order : List (Nat × Instr × Nat) := [(0, .aload_n 0, 1), (1, .invokevirtual 429, 3), (4, .iload_n 1, 1), (5, .iconst (-1), 1), (6, .aload_n 0, 1), (7, .getfield 426, 3), (10, .iconst 1, 1), (11, .isub, 1), (12, .invokestatic 319, 3), (15, .ifCond .ne 5, 3), (18, .iconst (-1), 1), (19, .ireturn, 1), (20, .aload_n 0, 1), (21, .getfield 65, 3), (24, .aload_n 0, 1), (25, .getfield 242, 3), (28, .iaload, 1), (29, .ifCond .ne 6, 3), (32, .bipush (-2), 2), (34, .ireturn, 1), (35, .aload_n 0, 1), (36, .invokevirtual 447, 3), (39, .aload_n 0, 1), (40, .getfield 438, 3), (43, .ifCond .ge 6, 3), (46, .bipush (-2), 2), (48, .ireturn, 1), (49, .iload_n 1, 1), (50, .iconst (-1), 1), (51, .if_icmp .ne 10, 3), (54, .aload_n 0, 1), (55, .getfield 444, 3), (58, .goto 26, 3), (61, .aload_n 0, 1), (62, .getfield 137, 3), (65, .aload_n 0, 1), (66, .getfield 438, 3), (69, .aload_n 0, 1), (70, .getfield 426, 3), (73, .iconst 1, 1), (74, .isub, 1), (75, .iload_n 1, 1), (76, .isub, 1), (77, .invokestatic 432, 3), (80, .idiv, 1), (81, .iconst 5, 1), (82, .irem, 1), (83, .iaload, 1), (84, .ireturn, 1)]
set_option maxRecDepth 20000 in
theorem daX12_order : ∀ x ∈ tbX12_order, decode cX12_order x.1 = .ok x.2 := by decide +kernel
theorem dkX12_order {i pc n : Nat} {ins : Instr} (h : tbX12_order[i]? = some (pc, ins, n)) : decode cX12_order pc = .ok (ins, n) := daX12_order (pc, ins, n) (List.mem_of_getElem? h)
def fX12_order (S0 : qv_St) (x1 : Int32) : Option (qv_St × Int32) :=
  (fX12_findsDue S0).bind fun S_1 =>
  (fX12_in x1 (-1) ((S_1.1 0 60) - 1)).bind fun r_1 =>
  if r_1 = 0 then
    some (S_1, (-1))
  else
    qv_ck (S_1.1 0 18) 2 <|
    if (S_1.1 16 (Int32.toNatClampNeg (S_1.1 0 18))) = 0 then
      some (S_1, (-2))
    else
      (fX12_fillsOrder S_1).bind fun S_2 =>
      if 0 ≤ (S_2.1 0 63) then
        if x1 = (-1) then
          some (S_2, (S_2.1 0 62))
        else
          (fX12_fives (((S_2.1 0 60) - 1) - x1)).bind fun r_2 =>
          qv_nz r_2 <|
          qv_nz 5 <|
          qv_ck (((S_2.1 0 63) / r_2) - ((S_2.1 0 63) / r_2) / 5 * 5) 5 <|
          some (S_2, (S_2.1 40 (Int32.toNatClampNeg (((S_2.1 0 63) / r_2) - ((S_2.1 0 63) / r_2) / 5 * 5))))
      else
        some (S_2, (-2))
set_option maxRecDepth 20000 in
set_option maxHeartbeats 4000000 in
theorem wX12_order (G : qv_GT) (S0 : qv_St) (x1 : Int32) : ∀ r, fX12_order S0 x1 = some r → Cn G Lm yX12_order cX12_order 2 (some .int) 12 [.ref (G.2.2.1 0), .int x1] S0 (qe_m r) := by
  refine cn_of (own := RX12) (emb := qe_m) (lv := [(0, .ref (G.2.2.1 0)), (1, .int x1)]) rfl rfl (Nat.le_of_ble_eq_true rfl) rfl (fun X => ?_)
  unfold fX12_order
  refine qr_aload_n (n := 1) 0 (dkX12_order (i := 0) rfl) rfl rfl ?_
  refine qr_cvu (n := 4) 0 [] (dkX12_order (i := 1) rfl) rfl kvX12_429 rfl rfl (Nat.le_of_ble_eq_true rfl) rfl rfl lmO rfl (wX12_findsDue G S0) (fun S_1 => ?_)
  refine qr_iload_n (n := 5) 1 (dkX12_order (i := 2) rfl) rfl rfl ?_
  refine qr_iconst (n := 6) (-1) (dkX12_order (i := 3) rfl) rfl (by decide) ?_
  refine qr_aload_n (n := 7) 0 (dkX12_order (i := 4) rfl) rfl rfl ?_
  refine qr_geti (n := 10) 0 60 (dkX12_order (i := 5) rfl) rfl lmO rfl gnX12 (Nat.le_of_ble_eq_true rfl) kfX12_426 rfl ?_
  refine qr_iconst (n := 11) 1 (dkX12_order (i := 6) rfl) rfl (by decide) ?_
  refine qr_isub (n := 12) (dkX12_order (i := 7) rfl) rfl ?_
  refine qr_csi (n := 15) [.int x1, .int (-1), .int ((S_1.1 0 60) - 1)] (dkX12_order (i := 8) rfl) rfl kvX12_319 rfl rfl (Nat.le_of_ble_eq_true rfl) rfl rfl (wX12_in G S_1 x1 (-1) ((S_1.1 0 60) - 1)) (fun r_1 => ?_)
  refine qr_if_ne (t := 20) (n := 18) (dkX12_order (i := 9) rfl) (by decide) rfl ?_ ?_
  · refine qr_aload_n (n := 21) 0 (dkX12_order (i := 12) rfl) rfl rfl ?_
    refine qr_geta (n := 24) 0 29 16 (dkX12_order (i := 13) rfl) rfl lmO rfl gnX12 (Nat.le_of_ble_eq_true rfl) kfX12_65 rfl ?_
    refine qr_aload_n (n := 25) 0 (dkX12_order (i := 14) rfl) rfl rfl ?_
    refine qr_geti (n := 28) 0 18 (dkX12_order (i := 15) rfl) rfl lmO rfl gnX12 (Nat.le_of_ble_eq_true rfl) kfX12_242 rfl ?_
    refine qr_iald (n := 29) 16 2 (dkX12_order (i := 16) rfl) rfl lmA_16 ?_
    refine qr_if_ne (t := 35) (n := 32) (dkX12_order (i := 17) rfl) (by decide) rfl ?_ ?_
    · refine qr_aload_n (n := 36) 0 (dkX12_order (i := 20) rfl) rfl rfl ?_
      refine qr_cvu (n := 39) 0 [] (dkX12_order (i := 21) rfl) rfl kvX12_447 rfl rfl (Nat.le_of_ble_eq_true rfl) rfl rfl lmO rfl (wX12_fillsOrder G S_1) (fun S_2 => ?_)
      refine qr_aload_n (n := 40) 0 (dkX12_order (i := 22) rfl) rfl rfl ?_
      refine qr_geti (n := 43) 0 63 (dkX12_order (i := 23) rfl) rfl lmO rfl gnX12 (Nat.le_of_ble_eq_true rfl) kfX12_438 rfl ?_
      refine qr_if_ge (t := 49) (n := 46) (dkX12_order (i := 24) rfl) (by decide) rfl ?_ ?_
      · refine qr_iload_n (n := 50) 1 (dkX12_order (i := 27) rfl) rfl rfl ?_
        refine qr_iconst (n := 51) (-1) (dkX12_order (i := 28) rfl) rfl (by decide) ?_
        refine qr_icmp_ne (t := 61) (n := 54) (dkX12_order (i := 29) rfl) (by decide) rfl ?_ ?_
        · refine qr_aload_n (n := 62) 0 (dkX12_order (i := 33) rfl) rfl rfl ?_
          refine qr_geta (n := 65) 0 59 40 (dkX12_order (i := 34) rfl) rfl lmO rfl gnX12 (Nat.le_of_ble_eq_true rfl) kfX12_137 rfl ?_
          refine qr_aload_n (n := 66) 0 (dkX12_order (i := 35) rfl) rfl rfl ?_
          refine qr_geti (n := 69) 0 63 (dkX12_order (i := 36) rfl) rfl lmO rfl gnX12 (Nat.le_of_ble_eq_true rfl) kfX12_438 rfl ?_
          refine qr_aload_n (n := 70) 0 (dkX12_order (i := 37) rfl) rfl rfl ?_
          refine qr_geti (n := 73) 0 60 (dkX12_order (i := 38) rfl) rfl lmO rfl gnX12 (Nat.le_of_ble_eq_true rfl) kfX12_426 rfl ?_
          refine qr_iconst (n := 74) 1 (dkX12_order (i := 39) rfl) rfl (by decide) ?_
          refine qr_isub (n := 75) (dkX12_order (i := 40) rfl) rfl ?_
          refine qr_iload_n (n := 76) 1 (dkX12_order (i := 41) rfl) rfl rfl ?_
          refine qr_isub (n := 77) (dkX12_order (i := 42) rfl) rfl ?_
          refine qr_csi (n := 80) [.int (((S_2.1 0 60) - 1) - x1)] (dkX12_order (i := 43) rfl) rfl kvX12_432 rfl rfl (Nat.le_of_ble_eq_true rfl) rfl rfl (wX12_fives G S_2 (((S_2.1 0 60) - 1) - x1)) (fun r_2 => ?_)
          refine qr_idiv (n := 81) (dkX12_order (i := 44) rfl) rfl ?_
          refine qr_iconst (n := 82) 5 (dkX12_order (i := 45) rfl) rfl (by decide) ?_
          refine qr_irem (n := 83) (dkX12_order (i := 46) rfl) rfl ?_
          refine qr_iald (n := 84) 40 5 (dkX12_order (i := 47) rfl) rfl lmA_40 ?_
          exact qr_iret (dkX12_order (i := 48) rfl) rfl rfl
        · refine qr_aload_n (n := 55) 0 (dkX12_order (i := 30) rfl) rfl rfl ?_
          refine qr_geti (n := 58) 0 62 (dkX12_order (i := 31) rfl) rfl lmO rfl gnX12 (Nat.le_of_ble_eq_true rfl) kfX12_444 rfl ?_
          refine qr_goto (n := 84) (dkX12_order (i := 32) rfl) (by decide) ?_
          exact qr_iret (dkX12_order (i := 48) rfl) rfl rfl
      · refine qr_bipush (n := 48) (-2) (dkX12_order (i := 25) rfl) rfl (by decide) ?_
        exact qr_iret (dkX12_order (i := 26) rfl) rfl rfl
    · refine qr_bipush (n := 34) (-2) (dkX12_order (i := 18) rfl) rfl (by decide) ?_
      exact qr_iret (dkX12_order (i := 19) rfl) rfl rfl
  · refine qr_iconst (n := 19) (-1) (dkX12_order (i := 10) rfl) rfl (by decide) ?_
    exact qr_iret (dkX12_order (i := 11) rfl) rfl rfl
def tbX12_usedBy : List (Nat × Instr × Nat) := [(0, .iconst 0, 1), (1, .istore_n 2, 1), (2, .iload_n 0, 1), (3, .istore_n 3, 1), (4, .iconst 0, 1), (5, .istore 4, 2), (7, .iload 4, 2), (9, .iload_n 1, 1), (10, .if_icmp .ge 21, 3), (13, .iload_n 2, 1), (14, .iconst 1, 1), (15, .iload_n 3, 1), (16, .iconst 5, 1), (17, .irem, 1), (18, .ishl, 1), (19, .ior, 1), (20, .istore_n 2, 1), (21, .iload_n 3, 1), (22, .iconst 5, 1), (23, .idiv, 1), (24, .istore_n 3, 1), (25, .iinc 4 1, 3), (28, .goto (-21), 3), (31, .iload_n 2, 1), (32, .ireturn, 1)]
set_option maxRecDepth 20000 in
theorem daX12_usedBy : ∀ x ∈ tbX12_usedBy, decode cX12_usedBy x.1 = .ok x.2 := by decide +kernel
theorem dkX12_usedBy {i pc n : Nat} {ins : Instr} (h : tbX12_usedBy[i]? = some (pc, ins, n)) : decode cX12_usedBy pc = .ok (ins, n) := daX12_usedBy (pc, ins, n) (List.mem_of_getElem? h)
def fX12_usedBy (x0 : Int32) (x1 : Int32) : Option Int32 :=
  qv_lp3 qv_N (fun self_1 (x2_1 : Int32) (x3_1 : Int32) (x4_1 : Int32) =>
    if x1 ≤ x4_1 then
      some x2_1
    else
      qv_nz 5 <|
      qv_b ((x2_1 ||| (1 <<< ((x3_1 - x3_1 / 5 * 5) &&& 31))) : Int32) fun x2_2 =>
      qv_nz 5 <|
      qv_b ((x3_1 / 5) : Int32) fun x3_2 =>
      self_1 x2_2 x3_2 (x4_1 + 1)) 0 x0 0
set_option maxRecDepth 20000 in
set_option maxHeartbeats 4000000 in
theorem wX12_usedBy (G : qv_GT) (S0 : qv_St) (x0 : Int32) (x1 : Int32) : ∀ r, fX12_usedBy x0 x1 = some r → Cn G Lm yX12_usedBy cX12_usedBy 5 (some .int) 1 [.int x0, .int x1] S0 ((qe_i S0) r) := by
  refine cn_of (own := RX12) (emb := (qe_i S0)) (lv := [(0, .int x0), (1, .int x1)]) rfl rfl (Nat.le_of_ble_eq_true rfl) rfl (fun X => ?_)
  unfold fX12_usedBy
  refine qr_iconst (n := 1) 0 (dkX12_usedBy (i := 0) rfl) rfl (by decide) ?_
  refine qr_istore_n (n := 2) (lv2 := [(0, .int x0), (1, .int x1), (2, .int 0)]) [1, 2, 0] (dkX12_usedBy (i := 1) rfl) rfl rfl (by decide) rfl ?_
  refine qr_iload_n (n := 3) 0 (dkX12_usedBy (i := 2) rfl) rfl rfl ?_
  refine qr_istore_n (n := 4) (lv2 := [(0, .int x0), (1, .int x1), (2, .int 0), (3, .int x0)]) [1, 2, 3, 0] (dkX12_usedBy (i := 3) rfl) rfl rfl (by decide) rfl ?_
  refine qr_iconst (n := 5) 0 (dkX12_usedBy (i := 4) rfl) rfl (by decide) ?_
  refine qr_istore (n := 7) (lv2 := [(0, .int x0), (1, .int x1), (2, .int 0), (3, .int x0), (4, .int 0)]) [1, 2, 3, 4, 0] (dkX12_usedBy (i := 5) rfl) rfl (by decide) rfl ?_
  refine qr_sub [1, 2, 3, 4] rfl ?_
  refine qr_lp3 (fun (x2_1 : Int32) (x3_1 : Int32) (x4_1 : Int32) => [(1, .int x1), (2, .int x2_1), (3, .int x3_1), (4, .int x4_1)]) (fun (x2_1 : Int32) (x3_1 : Int32) (x4_1 : Int32) => S0) (fun self_1 hself_1 x2_1 x3_1 x4_1 => ?_) qv_N 0 x0 0
  refine qr_iload (n := 9) 3 (dkX12_usedBy (i := 6) rfl) rfl rfl ?_
  refine qr_iload_n (n := 10) 0 (dkX12_usedBy (i := 7) rfl) rfl rfl ?_
  refine qr_icmp_ge (t := 31) (n := 13) (dkX12_usedBy (i := 8) rfl) (by decide) rfl ?_ ?_
  · refine qr_iload_n (n := 32) 1 (dkX12_usedBy (i := 23) rfl) rfl rfl ?_
    exact qr_iret (dkX12_usedBy (i := 24) rfl) rfl rfl
  · refine qr_iload_n (n := 14) 1 (dkX12_usedBy (i := 9) rfl) rfl rfl ?_
    refine qr_iconst (n := 15) 1 (dkX12_usedBy (i := 10) rfl) rfl (by decide) ?_
    refine qr_iload_n (n := 16) 2 (dkX12_usedBy (i := 11) rfl) rfl rfl ?_
    refine qr_iconst (n := 17) 5 (dkX12_usedBy (i := 12) rfl) rfl (by decide) ?_
    refine qr_irem (n := 18) (dkX12_usedBy (i := 13) rfl) rfl ?_
    refine qr_ishl (n := 19) (dkX12_usedBy (i := 14) rfl) rfl ?_
    refine qr_ior (n := 20) (dkX12_usedBy (i := 15) rfl) rfl ?_
    refine qr_b (α := Int32) (x2_1 ||| (1 <<< ((x3_1 - x3_1 / 5 * 5) &&& 31))) (lvf := fun _ => [(1, .int x1), (2, .int x2_1), (3, .int x3_1), (4, .int x4_1)]) (stf := fun z => .int z :: []) (Sf := fun _ => S0) (fun x2_2 => ?_)
    refine qr_istore_n (n := 21) (lv2 := [(1, .int x1), (2, .int x2_2), (3, .int x3_1), (4, .int x4_1)]) [1, 0, 2, 3] (dkX12_usedBy (i := 16) rfl) rfl rfl (by decide) rfl ?_
    refine qr_iload_n (n := 22) 2 (dkX12_usedBy (i := 17) rfl) rfl rfl ?_
    refine qr_iconst (n := 23) 5 (dkX12_usedBy (i := 18) rfl) rfl (by decide) ?_
    refine qr_idiv (n := 24) (dkX12_usedBy (i := 19) rfl) rfl ?_
    refine qr_b (α := Int32) (x3_1 / 5) (lvf := fun _ => [(1, .int x1), (2, .int x2_2), (3, .int x3_1), (4, .int x4_1)]) (stf := fun z => .int z :: []) (Sf := fun _ => S0) (fun x3_2 => ?_)
    refine qr_istore_n (n := 25) (lv2 := [(1, .int x1), (2, .int x2_2), (3, .int x3_2), (4, .int x4_1)]) [1, 2, 0, 3] (dkX12_usedBy (i := 20) rfl) rfl rfl (by decide) rfl ?_
    refine qr_iinc (n := 28) (v := 1) (lv2 := [(1, .int x1), (2, .int x2_2), (3, .int x3_2), (4, .int (x4_1 + 1))]) 3 [1, 2, 3, 0] (dkX12_usedBy (i := 21) rfl) rfl rfl (by decide) (by decide) rfl ?_
    refine qr_goto (n := 7) (dkX12_usedBy (i := 22) rfl) (by decide) ?_
    exact hself_1 x2_2 x3_2 (x4_1 + 1)
def tbX12_bits : List (Nat × Instr × Nat) := [(0, .iconst 0, 1), (1, .istore_n 1, 1), (2, .iconst 0, 1), (3, .istore_n 2, 1), (4, .iload_n 2, 1), (5, .bipush 8, 2), (7, .if_icmp .ge 17, 3), (10, .iload_n 1, 1), (11, .iload_n 0, 1), (12, .iload_n 2, 1), (13, .ishr, 1), (14, .iconst 1, 1), (15, .iand, 1), (16, .iadd, 1), (17, .istore_n 1, 1), (18, .iinc 2 1, 3), (21, .goto (-17), 3), (24, .iload_n 1, 1), (25, .ireturn, 1)]
set_option maxRecDepth 20000 in
theorem daX12_bits : ∀ x ∈ tbX12_bits, decode cX12_bits x.1 = .ok x.2 := by decide +kernel
theorem dkX12_bits {i pc n : Nat} {ins : Instr} (h : tbX12_bits[i]? = some (pc, ins, n)) : decode cX12_bits pc = .ok (ins, n) := daX12_bits (pc, ins, n) (List.mem_of_getElem? h)
def fX12_bits (x0 : Int32) : Option Int32 :=
  qv_lp2 qv_N (fun self_1 (x1_1 : Int32) (x2_1 : Int32) =>
    if 8 ≤ x2_1 then
      some x1_1
    else
      qv_b ((x1_1 + ((x0 >>> (x2_1 &&& 31)) &&& 1)) : Int32) fun x1_2 =>
      self_1 x1_2 (x2_1 + 1)) 0 0
set_option maxRecDepth 20000 in
set_option maxHeartbeats 4000000 in
theorem wX12_bits (G : qv_GT) (S0 : qv_St) (x0 : Int32) : ∀ r, fX12_bits x0 = some r → Cn G Lm yX12_bits cX12_bits 3 (some .int) 1 [.int x0] S0 ((qe_i S0) r) := by
  refine cn_of (own := RX12) (emb := (qe_i S0)) (lv := [(0, .int x0)]) rfl rfl (Nat.le_of_ble_eq_true rfl) rfl (fun X => ?_)
  unfold fX12_bits
  refine qr_iconst (n := 1) 0 (dkX12_bits (i := 0) rfl) rfl (by decide) ?_
  refine qr_istore_n (n := 2) (lv2 := [(0, .int x0), (1, .int 0)]) [1, 0] (dkX12_bits (i := 1) rfl) rfl rfl (by decide) rfl ?_
  refine qr_iconst (n := 3) 0 (dkX12_bits (i := 2) rfl) rfl (by decide) ?_
  refine qr_istore_n (n := 4) (lv2 := [(0, .int x0), (1, .int 0), (2, .int 0)]) [1, 2, 0] (dkX12_bits (i := 3) rfl) rfl rfl (by decide) rfl ?_
  refine qr_lp2 (fun (x1_1 : Int32) (x2_1 : Int32) => [(0, .int x0), (1, .int x1_1), (2, .int x2_1)]) (fun (x1_1 : Int32) (x2_1 : Int32) => S0) (fun self_1 hself_1 x1_1 x2_1 => ?_) qv_N 0 0
  refine qr_iload_n (n := 5) 2 (dkX12_bits (i := 4) rfl) rfl rfl ?_
  refine qr_bipush (n := 7) 8 (dkX12_bits (i := 5) rfl) rfl (by decide) ?_
  refine qr_icmp_ge (t := 24) (n := 10) (dkX12_bits (i := 6) rfl) (by decide) rfl ?_ ?_
  · refine qr_iload_n (n := 25) 1 (dkX12_bits (i := 17) rfl) rfl rfl ?_
    exact qr_iret (dkX12_bits (i := 18) rfl) rfl rfl
  · refine qr_iload_n (n := 11) 1 (dkX12_bits (i := 7) rfl) rfl rfl ?_
    refine qr_iload_n (n := 12) 0 (dkX12_bits (i := 8) rfl) rfl rfl ?_
    refine qr_iload_n (n := 13) 2 (dkX12_bits (i := 9) rfl) rfl rfl ?_
    refine qr_ishr (n := 14) (dkX12_bits (i := 10) rfl) rfl ?_
    refine qr_iconst (n := 15) 1 (dkX12_bits (i := 11) rfl) rfl (by decide) ?_
    refine qr_iand (n := 16) (dkX12_bits (i := 12) rfl) rfl ?_
    refine qr_iadd (n := 17) (dkX12_bits (i := 13) rfl) rfl ?_
    refine qr_b (α := Int32) (x1_1 + ((x0 >>> (x2_1 &&& 31)) &&& 1)) (lvf := fun _ => [(0, .int x0), (1, .int x1_1), (2, .int x2_1)]) (stf := fun z => .int z :: []) (Sf := fun _ => S0) (fun x1_2 => ?_)
    refine qr_istore_n (n := 18) (lv2 := [(0, .int x0), (1, .int x1_2), (2, .int x2_1)]) [1, 0, 2] (dkX12_bits (i := 14) rfl) rfl rfl (by decide) rfl ?_
    refine qr_iinc (n := 21) (v := 1) (lv2 := [(0, .int x0), (1, .int x1_2), (2, .int (x2_1 + 1))]) 2 [1, 2, 0] (dkX12_bits (i := 15) rfl) rfl rfl (by decide) (by decide) rfl ?_
    refine qr_goto (n := 4) (dkX12_bits (i := 16) rfl) (by decide) ?_
    exact hself_1 x1_2 (x2_1 + 1)
def tbX12_shotsOf : List (Nat × Instr × Nat) := [(0, .iconst 0, 1), (1, .istore_n 2, 1), (2, .iconst 0, 1), (3, .istore_n 3, 1), (4, .iload_n 3, 1), (5, .aload_n 0, 1), (6, .getfield 426, 3), (9, .if_icmp .ge 29, 3), (12, .iload_n 1, 1), (13, .iload_n 3, 1), (14, .ishr, 1), (15, .iconst 1, 1), (16, .iand, 1), (17, .iconst 1, 1), (18, .if_icmp .ne 14, 3), (21, .iload_n 2, 1), (22, .iconst 1, 1), (23, .aload_n 0, 1), (24, .getfield 137, 3), (27, .iload_n 3, 1), (28, .iaload, 1), (29, .ishl, 1), (30, .ior, 1), (31, .istore_n 2, 1), (32, .iinc 3 1, 3), (35, .goto (-31), 3), (38, .iload_n 2, 1), (39, .ireturn, 1)]
set_option maxRecDepth 20000 in
theorem daX12_shotsOf : ∀ x ∈ tbX12_shotsOf, decode cX12_shotsOf x.1 = .ok x.2 := by decide +kernel
theorem dkX12_shotsOf {i pc n : Nat} {ins : Instr} (h : tbX12_shotsOf[i]? = some (pc, ins, n)) : decode cX12_shotsOf pc = .ok (ins, n) := daX12_shotsOf (pc, ins, n) (List.mem_of_getElem? h)
def fX12_shotsOf (S0 : qv_St) (x1 : Int32) : Option Int32 :=
  qv_lp2 qv_N (fun self_1 (x2_1 : Int32) (x3_1 : Int32) =>
    if (S0.1 0 60) ≤ x3_1 then
      some x2_1
    else
      qv_j (fun (x2_2 : Int32) =>
        self_1 x2_2 (x3_1 + 1)) fun K_1 =>
      if ((x1 >>> (x3_1 &&& 31)) &&& 1) = 1 then
        qv_ck x3_1 5 <|
        qv_b ((x2_1 ||| (1 <<< ((S0.1 40 (Int32.toNatClampNeg x3_1)) &&& 31))) : Int32) fun x2_3 =>
        K_1 x2_3
      else
        K_1 x2_1) 0 0
set_option maxRecDepth 20000 in
set_option maxHeartbeats 4000000 in
theorem wX12_shotsOf (G : qv_GT) (S0 : qv_St) (x1 : Int32) : ∀ r, fX12_shotsOf S0 x1 = some r → Cn G Lm yX12_shotsOf cX12_shotsOf 4 (some .int) 1 [.ref (G.2.2.1 0), .int x1] S0 ((qe_i S0) r) := by
  refine cn_of (own := RX12) (emb := (qe_i S0)) (lv := [(0, .ref (G.2.2.1 0)), (1, .int x1)]) rfl rfl (Nat.le_of_ble_eq_true rfl) rfl (fun X => ?_)
  unfold fX12_shotsOf
  refine qr_iconst (n := 1) 0 (dkX12_shotsOf (i := 0) rfl) rfl (by decide) ?_
  refine qr_istore_n (n := 2) (lv2 := [(0, .ref (G.2.2.1 0)), (1, .int x1), (2, .int 0)]) [1, 2, 0] (dkX12_shotsOf (i := 1) rfl) rfl rfl (by decide) rfl ?_
  refine qr_iconst (n := 3) 0 (dkX12_shotsOf (i := 2) rfl) rfl (by decide) ?_
  refine qr_istore_n (n := 4) (lv2 := [(0, .ref (G.2.2.1 0)), (1, .int x1), (2, .int 0), (3, .int 0)]) [1, 2, 3, 0] (dkX12_shotsOf (i := 3) rfl) rfl rfl (by decide) rfl ?_
  refine qr_lp2 (fun (x2_1 : Int32) (x3_1 : Int32) => [(0, .ref (G.2.2.1 0)), (1, .int x1), (2, .int x2_1), (3, .int x3_1)]) (fun (x2_1 : Int32) (x3_1 : Int32) => S0) (fun self_1 hself_1 x2_1 x3_1 => ?_) qv_N 0 0
  refine qr_iload_n (n := 5) 3 (dkX12_shotsOf (i := 4) rfl) rfl rfl ?_
  refine qr_aload_n (n := 6) 0 (dkX12_shotsOf (i := 5) rfl) rfl rfl ?_
  refine qr_geti (n := 9) 0 60 (dkX12_shotsOf (i := 6) rfl) rfl lmO rfl gnX12 (Nat.le_of_ble_eq_true rfl) kfX12_426 rfl ?_
  refine qr_icmp_ge (t := 38) (n := 12) (dkX12_shotsOf (i := 7) rfl) (by decide) rfl ?_ ?_
  · refine qr_iload_n (n := 39) 2 (dkX12_shotsOf (i := 26) rfl) rfl rfl ?_
    exact qr_iret (dkX12_shotsOf (i := 27) rfl) rfl rfl
  · refine qr_iload_n (n := 13) 1 (dkX12_shotsOf (i := 8) rfl) rfl rfl ?_
    refine qr_iload_n (n := 14) 3 (dkX12_shotsOf (i := 9) rfl) rfl rfl ?_
    refine qr_ishr (n := 15) (dkX12_shotsOf (i := 10) rfl) rfl ?_
    refine qr_iconst (n := 16) 1 (dkX12_shotsOf (i := 11) rfl) rfl (by decide) ?_
    refine qr_iand (n := 17) (dkX12_shotsOf (i := 12) rfl) rfl ?_
    refine qr_iconst (n := 18) 1 (dkX12_shotsOf (i := 13) rfl) rfl (by decide) ?_
    refine qr_j (fun K_1 : Int32 → Option Int32 => ∀ (x2_2 : Int32), VV G Lm X RX12 cX12_shotsOf 4 (some .int) 1 (qe_i S0) 32 [(0, .ref (G.2.2.1 0)), (1, .int x1), (2, .int x2_2), (3, .int x3_1)] [] S0 (K_1 x2_2)) (fun x2_2 => ?_) (fun K_1 hK_1 => ?_)
    · refine qr_iinc (n := 35) (v := 1) (lv2 := [(0, .ref (G.2.2.1 0)), (1, .int x1), (2, .int x2_2), (3, .int (x3_1 + 1))]) 3 [1, 2, 3, 0] (dkX12_shotsOf (i := 24) rfl) rfl rfl (by decide) (by decide) rfl ?_
      refine qr_goto (n := 4) (dkX12_shotsOf (i := 25) rfl) (by decide) ?_
      exact hself_1 x2_2 (x3_1 + 1)
    · refine qr_icmp_ne (t := 32) (n := 21) (dkX12_shotsOf (i := 14) rfl) (by decide) rfl ?_ ?_
      · exact hK_1 x2_1
      · refine qr_iload_n (n := 22) 2 (dkX12_shotsOf (i := 15) rfl) rfl rfl ?_
        refine qr_iconst (n := 23) 1 (dkX12_shotsOf (i := 16) rfl) rfl (by decide) ?_
        refine qr_aload_n (n := 24) 0 (dkX12_shotsOf (i := 17) rfl) rfl rfl ?_
        refine qr_geta (n := 27) 0 59 40 (dkX12_shotsOf (i := 18) rfl) rfl lmO rfl gnX12 (Nat.le_of_ble_eq_true rfl) kfX12_137 rfl ?_
        refine qr_iload_n (n := 28) 3 (dkX12_shotsOf (i := 19) rfl) rfl rfl ?_
        refine qr_iald (n := 29) 40 5 (dkX12_shotsOf (i := 20) rfl) rfl lmA_40 ?_
        refine qr_ishl (n := 30) (dkX12_shotsOf (i := 21) rfl) rfl ?_
        refine qr_ior (n := 31) (dkX12_shotsOf (i := 22) rfl) rfl ?_
        refine qr_b (α := Int32) (x2_1 ||| (1 <<< ((S0.1 40 (Int32.toNatClampNeg x3_1)) &&& 31))) (lvf := fun _ => [(0, .ref (G.2.2.1 0)), (1, .int x1), (2, .int x2_1), (3, .int x3_1)]) (stf := fun z => .int z :: []) (Sf := fun _ => S0) (fun x2_3 => ?_)
        refine qr_istore_n (n := 32) (lv2 := [(0, .ref (G.2.2.1 0)), (1, .int x1), (2, .int x2_3), (3, .int x3_1)]) [1, 2, 0, 3] (dkX12_shotsOf (i := 23) rfl) rfl rfl (by decide) rfl ?_
        exact hK_1 x2_3
def tbX12_cellar : List (Nat × Instr × Nat) := [(0, .iload_n 1, 1), (1, .iconst 0, 1), (2, .sipush 2000, 3), (5, .invokestatic 319, 3), (8, .ifCond .eq 12, 3), (11, .iload_n 2, 1), (12, .iconst 0, 1), (13, .iconst 1, 1), (14, .invokestatic 319, 3), (17, .ifCond .ne 5, 3), (20, .iconst (-1), 1), (21, .ireturn, 1), (22, .aload_n 0, 1), (23, .getfield 65, 3), (26, .aload_n 0, 1), (27, .getfield 242, 3), (30, .iaload, 1), (31, .ifCond .ne 6, 3), (34, .bipush (-2), 2), (36, .ireturn, 1), (37, .aload_n 0, 1), (38, .invokevirtual 435, 3), (41, .iconst 0, 1), (42, .istore_n 3, 1), (43, .iload_n 3, 1), (44, .bipush 32, 2), (46, .if_icmp .ge 24, 3), (49, .aload_n 0, 1), (50, .getfield 143, 3), (53, .iload_n 3, 1), (54, .iload_n 3, 1), (55, .ifCond .ne 7, 3), (58, .iconst 1, 1), (59, .goto 4, 3), (62, .iconst 0, 1), (63, .bastore, 1), (64, .iinc 3 1, 3), (67, .goto (-24), 3), (70, .iconst 1, 1), (71, .istore_n 3, 1), (72, .iload_n 3, 1), (73, .aload_n 0, 1), (74, .getfield 426, 3), (77, .if_icmp .gt 59, 3), (80, .iconst 0, 1), (81, .istore 4, 2), (83, .iload 4, 2), (85, .iload_n 3, 1), (86, .invokestatic 432, 3), (89, .if_icmp .ge 41, 3), (92, .aload_n 0, 1), (93, .iload 4, 2), (95, .iload_n 3, 1), (96, .invokevirtual 441, 3), (99, .istore 5, 2), (101, .iload 5, 2), (103, .ifCond .lt 21, 3), (106, .iload 5, 2), (108, .iload_n 1, 1), (109, .if_icmp .gt 15, 3), (112, .aload_n 0, 1), (113, .getfield 143, 3), (116, .iload 4, 2), (118, .iload_n 3, 1), (119, .invokestatic 450, 3), (122, .iconst 1, 1), (123, .bastore, 1), (124, .iinc 4 1, 3), (127, .goto (-44), 3), (130, .iinc 3 1, 3), (133, .goto (-61), 3), (136, .iconst 1, 1), (137, .aload_n 0, 1), (138, .getfield 426, 3), (141, .ishl, 1), (142, .iconst 1, 1), (143, .isub, 1), (144, .istore_n 3, 1), (145, .iload_n 3, 1), (146, .istore 4, 2), (148, .iconst 0, 1), (149, .istore 5, 2), (151, .iload 5, 2), (153, .iload_n 3, 1), (154, .if_icmp .ge 68, 3), (157, .aload_n 0, 1), (158, .getfield 143, 3), (161, .iload_n 3, 1), (162, .iload 5, 2), (164, .iconst (-1), 1), (165, .ixor, 1), (166, .iand, 1), (167, .baload, 1), (168, .ifCond .eq 48, 3), (171, .iload 5, 2), (173, .invokestatic 453, 3), (176, .iload 4, 2), (178, .invokestatic 453, 3), (181, .if_icmp .lt 31, 3), (184, .iload 5, 2), (186, .invokestatic 453, 3), (189, .iload 4, 2), (191, .invokestatic 453, 3), (194, .if_icmp .ne 22, 3), (197, .aload_n 0, 1), (198, .iload 5, 2), (200, .invokevirtual 456, 3), (203, .aload_n 0, 1), (204, .iload 4, 2), (206, .invokevirtual 456, 3), (209, .if_icmp .ge 7, 3), (212, .iload 5, 2), (214, .istore 4, 2), (216, .iinc 5 1, 3), (219, .goto (-68), 3), (222, .iload_n 2, 1), (223, .ifCond .ne 11, 3), (226, .iload 4, 2), (228, .invokestatic 453, 3), (231, .goto 9, 3), (234, .aload_n 0, 1), (235, .iload 4, 2), (237, .invokevirtual 456, 3), (240, .ireturn, 1)]
set_option maxRecDepth 20000 in
theorem daX12_cellar : ∀ x ∈ tbX12_cellar, decode cX12_cellar x.1 = .ok x.2 := by decide +kernel
theorem dkX12_cellar {i pc n : Nat} {ins : Instr} (h : tbX12_cellar[i]? = some (pc, ins, n)) : decode cX12_cellar pc = .ok (ins, n) := daX12_cellar (pc, ins, n) (List.mem_of_getElem? h)
def fX12_cellar (S0 : qv_St) (x1 : Int32) (x2 : Int32) : Option (qv_St × Int32) :=
  (fX12_in x1 0 2000).bind fun r_1 =>
  if r_1 = 0 then
    some (S0, (-1))
  else
    (fX12_in x2 0 1).bind fun r_2 =>
    if r_2 = 0 then
      some (S0, (-1))
    else
      qv_ck (S0.1 0 18) 2 <|
      if (S0.1 16 (Int32.toNatClampNeg (S0.1 0 18))) = 0 then
        some (S0, (-2))
      else
        (fX12_fillsDue S0).bind fun S_1 =>
        qv_j (fun (S_2 : qv_St) =>
          qv_j (fun (S_3 : qv_St) =>
            qv_b (((1 <<< ((S_3.1 0 60) &&& 31)) - 1) : Int32) fun x3_1 =>
            qv_j (fun (x4_1 : Int32) =>
              if x2 = 0 then
                (fX12_bits x4_1).bind fun r_4 =>
                some (S_3, r_4)
              else
                (fX12_shotsOf S_3 x4_1).bind fun r_3 =>
                some (S_3, r_3)) fun K_3 =>
            qv_lp2 qv_N (fun self_1 (x4_2 : Int32) (x5_1 : Int32) =>
              if x3_1 ≤ x5_1 then
                K_3 x4_2
              else
                qv_ck (x3_1 &&& (x5_1 ^^^ (-1))) 32 <|
                qv_j (fun (x4_3 : Int32) =>
                  self_1 x4_3 (x5_1 + 1)) fun K_4 =>
                if (S_3.1 42 (Int32.toNatClampNeg (x3_1 &&& (x5_1 ^^^ (-1))))) = 0 then
                  K_4 x4_2
                else
                  (fX12_bits x5_1).bind fun r_5 =>
                  (fX12_bits x4_2).bind fun r_6 =>
                  qv_j (
                    K_4 x5_1) fun K_5 =>
                  if r_5 < r_6 then
                    K_5
                  else
                    (fX12_bits x5_1).bind fun r_7 =>
                    (fX12_bits x4_2).bind fun r_8 =>
                    if r_7 = r_8 then
                      (fX12_shotsOf S_3 x5_1).bind fun r_9 =>
                      (fX12_shotsOf S_3 x4_2).bind fun r_10 =>
                      if r_10 ≤ r_9 then
                        K_4 x4_2
                      else
                        K_5
                    else
                      K_4 x4_2) x3_1 0) fun K_2 =>
          qv_lp2 qv_N (fun self_2 (S_4 : qv_St) (x3_2 : Int32) =>
            if (S_4.1 0 60) < x3_2 then
              K_2 S_4
            else
              qv_j (fun (S_5 : qv_St) =>
                self_2 S_5 (x3_2 + 1)) fun K_6 =>
              qv_lp2 qv_N (fun self_3 (S_6 : qv_St) (x4_4 : Int32) =>
                (fX12_fives x3_2).bind fun r_11 =>
                if r_11 ≤ x4_4 then
                  K_6 S_6
                else
                  (fX12_endBy S_6 x4_4 x3_2).bind fun r_12 =>
                  qv_j (fun (S_7 : qv_St) =>
                    self_3 S_7 (x4_4 + 1)) fun K_7 =>
                  if r_12 < 0 then
                    K_7 S_6
                  else
                    if x1 < r_12 then
                      K_7 S_6
                    else
                      (fX12_usedBy x4_4 x3_2).bind fun r_13 =>
                      qv_ck r_13 32 <| qv_b (qv_si S_6 42 (Int32.toNatClampNeg r_13) (vp_nar .boolean 1)) fun S_8 =>
                      K_7 S_8) S_4 0) S_2 1) fun K_1 =>
        qv_lp2 qv_N (fun self_4 (S_9 : qv_St) (x3_3 : Int32) =>
          if 32 ≤ x3_3 then
            K_1 S_9
          else
            qv_j (fun (t_1 : Int32) =>
              qv_ck x3_3 32 <| qv_b (qv_si S_9 42 (Int32.toNatClampNeg x3_3) (vp_nar .boolean t_1)) fun S_10 =>
              self_4 S_10 (x3_3 + 1)) fun K_8 =>
            if x3_3 = 0 then
              K_8 1
            else
              K_8 0) S_1 0
set_option maxRecDepth 20000 in
set_option maxHeartbeats 4000000 in
theorem wX12_cellar (G : qv_GT) (S0 : qv_St) (x1 : Int32) (x2 : Int32) : ∀ r, fX12_cellar S0 x1 x2 = some r → Cn G Lm yX12_cellar cX12_cellar 6 (some .int) 11 [.ref (G.2.2.1 0), .int x1, .int x2] S0 (qe_m r) := by
  refine cn_of (own := RX12) (emb := qe_m) (lv := [(0, .ref (G.2.2.1 0)), (1, .int x1), (2, .int x2)]) rfl rfl (Nat.le_of_ble_eq_true rfl) rfl (fun X => ?_)
  unfold fX12_cellar
  refine qr_iload_n (n := 1) 1 (dkX12_cellar (i := 0) rfl) rfl rfl ?_
  refine qr_iconst (n := 2) 0 (dkX12_cellar (i := 1) rfl) rfl (by decide) ?_
  refine qr_sipush (n := 5) 2000 (dkX12_cellar (i := 2) rfl) rfl (by decide) ?_
  refine qr_csi (n := 8) [.int x1, .int 0, .int 2000] (dkX12_cellar (i := 3) rfl) rfl kvX12_319 rfl rfl (Nat.le_of_ble_eq_true rfl) rfl rfl (wX12_in G S0 x1 0 2000) (fun r_1 => ?_)
  refine qr_if_eq (t := 20) (n := 11) (dkX12_cellar (i := 4) rfl) (by decide) rfl ?_ ?_
  · refine qr_iconst (n := 21) (-1) (dkX12_cellar (i := 10) rfl) rfl (by decide) ?_
    exact qr_iret (dkX12_cellar (i := 11) rfl) rfl rfl
  · refine qr_iload_n (n := 12) 2 (dkX12_cellar (i := 5) rfl) rfl rfl ?_
    refine qr_iconst (n := 13) 0 (dkX12_cellar (i := 6) rfl) rfl (by decide) ?_
    refine qr_iconst (n := 14) 1 (dkX12_cellar (i := 7) rfl) rfl (by decide) ?_
    refine qr_csi (n := 17) [.int x2, .int 0, .int 1] (dkX12_cellar (i := 8) rfl) rfl kvX12_319 rfl rfl (Nat.le_of_ble_eq_true rfl) rfl rfl (wX12_in G S0 x2 0 1) (fun r_2 => ?_)
    refine qr_if_ne (t := 22) (n := 20) (dkX12_cellar (i := 9) rfl) (by decide) rfl ?_ ?_
    · refine qr_aload_n (n := 23) 0 (dkX12_cellar (i := 12) rfl) rfl rfl ?_
      refine qr_geta (n := 26) 0 29 16 (dkX12_cellar (i := 13) rfl) rfl lmO rfl gnX12 (Nat.le_of_ble_eq_true rfl) kfX12_65 rfl ?_
      refine qr_aload_n (n := 27) 0 (dkX12_cellar (i := 14) rfl) rfl rfl ?_
      refine qr_geti (n := 30) 0 18 (dkX12_cellar (i := 15) rfl) rfl lmO rfl gnX12 (Nat.le_of_ble_eq_true rfl) kfX12_242 rfl ?_
      refine qr_iald (n := 31) 16 2 (dkX12_cellar (i := 16) rfl) rfl lmA_16 ?_
      refine qr_if_ne (t := 37) (n := 34) (dkX12_cellar (i := 17) rfl) (by decide) rfl ?_ ?_
      · refine qr_aload_n (n := 38) 0 (dkX12_cellar (i := 20) rfl) rfl rfl ?_
        refine qr_cvu (n := 41) 0 [] (dkX12_cellar (i := 21) rfl) rfl kvX12_435 rfl rfl (Nat.le_of_ble_eq_true rfl) rfl rfl lmO rfl (wX12_fillsDue G S0) (fun S_1 => ?_)
        refine qr_iconst (n := 42) 0 (dkX12_cellar (i := 22) rfl) rfl (by decide) ?_
        refine qr_istore_n (n := 43) (lv2 := [(0, .ref (G.2.2.1 0)), (1, .int x1), (2, .int x2), (3, .int 0)]) [1, 2, 3, 0] (dkX12_cellar (i := 23) rfl) rfl rfl (by decide) rfl ?_
        refine qr_j (fun K_1 : qv_St → Option (qv_St × Int32) => ∀ (S_2 : qv_St), VV G Lm X RX12 cX12_cellar 6 (some .int) 11 qe_m 70 [(0, .ref (G.2.2.1 0)), (1, .int x1), (2, .int x2)] [] S_2 (K_1 S_2)) (fun S_2 => ?_) (fun K_1 hK_1 => ?_)
        · refine qr_iconst (n := 71) 1 (dkX12_cellar (i := 38) rfl) rfl (by decide) ?_
          refine qr_istore_n (n := 72) (lv2 := [(0, .ref (G.2.2.1 0)), (1, .int x1), (2, .int x2), (3, .int 1)]) [1, 2, 3, 0] (dkX12_cellar (i := 39) rfl) rfl rfl (by decide) rfl ?_
          refine qr_j (fun K_2 : qv_St → Option (qv_St × Int32) => ∀ (S_3 : qv_St), VV G Lm X RX12 cX12_cellar 6 (some .int) 11 qe_m 136 [(0, .ref (G.2.2.1 0)), (2, .int x2)] [] S_3 (K_2 S_3)) (fun S_3 => ?_) (fun K_2 hK_2 => ?_)
          · refine qr_iconst (n := 137) 1 (dkX12_cellar (i := 71) rfl) rfl (by decide) ?_
            refine qr_aload_n (n := 138) 0 (dkX12_cellar (i := 72) rfl) rfl rfl ?_
            refine qr_geti (n := 141) 0 60 (dkX12_cellar (i := 73) rfl) rfl lmO rfl gnX12 (Nat.le_of_ble_eq_true rfl) kfX12_426 rfl ?_
            refine qr_ishl (n := 142) (dkX12_cellar (i := 74) rfl) rfl ?_
            refine qr_iconst (n := 143) 1 (dkX12_cellar (i := 75) rfl) rfl (by decide) ?_
            refine qr_isub (n := 144) (dkX12_cellar (i := 76) rfl) rfl ?_
            refine qr_b (α := Int32) ((1 <<< ((S_3.1 0 60) &&& 31)) - 1) (lvf := fun _ => [(0, .ref (G.2.2.1 0)), (2, .int x2)]) (stf := fun z => .int z :: []) (Sf := fun _ => S_3) (fun x3_1 => ?_)
            refine qr_istore_n (n := 145) (lv2 := [(0, .ref (G.2.2.1 0)), (2, .int x2), (3, .int x3_1)]) [1, 2, 0] (dkX12_cellar (i := 77) rfl) rfl rfl (by decide) rfl ?_
            refine qr_iload_n (n := 146) 2 (dkX12_cellar (i := 78) rfl) rfl rfl ?_
            refine qr_istore (n := 148) (lv2 := [(0, .ref (G.2.2.1 0)), (2, .int x2), (3, .int x3_1), (4, .int x3_1)]) [1, 2, 3, 0] (dkX12_cellar (i := 79) rfl) rfl (by decide) rfl ?_
            refine qr_iconst (n := 149) 0 (dkX12_cellar (i := 80) rfl) rfl (by decide) ?_
            refine qr_istore (n := 151) (lv2 := [(0, .ref (G.2.2.1 0)), (2, .int x2), (3, .int x3_1), (4, .int x3_1), (5, .int 0)]) [1, 2, 3, 4, 0] (dkX12_cellar (i := 81) rfl) rfl (by decide) rfl ?_
            refine qr_j (fun K_3 : Int32 → Option (qv_St × Int32) => ∀ (x4_1 : Int32), VV G Lm X RX12 cX12_cellar 6 (some .int) 11 qe_m 222 [(0, .ref (G.2.2.1 0)), (2, .int x2), (4, .int x4_1)] [] S_3 (K_3 x4_1)) (fun x4_1 => ?_) (fun K_3 hK_3 => ?_)
            · refine qr_iload_n (n := 223) 1 (dkX12_cellar (i := 115) rfl) rfl rfl ?_
              refine qr_if_ne (t := 234) (n := 226) (dkX12_cellar (i := 116) rfl) (by decide) rfl ?_ ?_
              · refine qr_aload_n (n := 235) 0 (dkX12_cellar (i := 120) rfl) rfl rfl ?_
                refine qr_iload (n := 237) 2 (dkX12_cellar (i := 121) rfl) rfl rfl ?_
                refine qr_cvi (n := 240) 0 [.int x4_1] (dkX12_cellar (i := 122) rfl) rfl kvX12_456 rfl rfl (Nat.le_of_ble_eq_true rfl) rfl rfl lmO rfl (wX12_shotsOf G S_3 x4_1) (fun r_3 => ?_)
                exact qr_iret (dkX12_cellar (i := 123) rfl) rfl rfl
              · refine qr_iload (n := 228) 2 (dkX12_cellar (i := 117) rfl) rfl rfl ?_
                refine qr_csi (n := 231) [.int x4_1] (dkX12_cellar (i := 118) rfl) rfl kvX12_453 rfl rfl (Nat.le_of_ble_eq_true rfl) rfl rfl (wX12_bits G S_3 x4_1) (fun r_4 => ?_)
                refine qr_goto (n := 240) (dkX12_cellar (i := 119) rfl) (by decide) ?_
                exact qr_iret (dkX12_cellar (i := 123) rfl) rfl rfl
            · refine qr_lp2 (fun (x4_2 : Int32) (x5_1 : Int32) => [(0, .ref (G.2.2.1 0)), (2, .int x2), (3, .int x3_1), (4, .int x4_2), (5, .int x5_1)]) (fun (x4_2 : Int32) (x5_1 : Int32) => S_3) (fun self_1 hself_1 x4_2 x5_1 => ?_) qv_N x3_1 0
              refine qr_iload (n := 153) 4 (dkX12_cellar (i := 82) rfl) rfl rfl ?_
              refine qr_iload_n (n := 154) 2 (dkX12_cellar (i := 83) rfl) rfl rfl ?_
              refine qr_icmp_ge (t := 222) (n := 157) (dkX12_cellar (i := 84) rfl) (by decide) rfl ?_ ?_
              · refine qr_sub [0, 1, 3] rfl ?_
                exact hK_3 x4_2
              · refine qr_aload_n (n := 158) 0 (dkX12_cellar (i := 85) rfl) rfl rfl ?_
                refine qr_geta (n := 161) 0 64 42 (dkX12_cellar (i := 86) rfl) rfl lmO rfl gnX12 (Nat.le_of_ble_eq_true rfl) kfX12_143 rfl ?_
                refine qr_iload_n (n := 162) 2 (dkX12_cellar (i := 87) rfl) rfl rfl ?_
                refine qr_iload (n := 164) 4 (dkX12_cellar (i := 88) rfl) rfl rfl ?_
                refine qr_iconst (n := 165) (-1) (dkX12_cellar (i := 89) rfl) rfl (by decide) ?_
                refine qr_ixor (n := 166) (dkX12_cellar (i := 90) rfl) rfl ?_
                refine qr_iand (n := 167) (dkX12_cellar (i := 91) rfl) rfl ?_
                refine qr_zald (n := 168) 42 32 (dkX12_cellar (i := 92) rfl) rfl lmA_42 ?_
                refine qr_j (fun K_4 : Int32 → Option (qv_St × Int32) => ∀ (x4_3 : Int32), VV G Lm X RX12 cX12_cellar 6 (some .int) 11 qe_m 216 [(0, .ref (G.2.2.1 0)), (2, .int x2), (3, .int x3_1), (4, .int x4_3), (5, .int x5_1)] [] S_3 (K_4 x4_3)) (fun x4_3 => ?_) (fun K_4 hK_4 => ?_)
                · refine qr_iinc (n := 219) (v := 1) (lv2 := [(0, .ref (G.2.2.1 0)), (2, .int x2), (3, .int x3_1), (4, .int x4_3), (5, .int (x5_1 + 1))]) 4 [1, 2, 3, 4, 0] (dkX12_cellar (i := 113) rfl) rfl rfl (by decide) (by decide) rfl ?_
                  refine qr_goto (n := 151) (dkX12_cellar (i := 114) rfl) (by decide) ?_
                  exact hself_1 x4_3 (x5_1 + 1)
                · refine qr_if_eq (t := 216) (n := 171) (dkX12_cellar (i := 93) rfl) (by decide) rfl ?_ ?_
                  · exact hK_4 x4_2
                  · refine qr_iload (n := 173) 4 (dkX12_cellar (i := 94) rfl) rfl rfl ?_
                    refine qr_csi (n := 176) [.int x5_1] (dkX12_cellar (i := 95) rfl) rfl kvX12_453 rfl rfl (Nat.le_of_ble_eq_true rfl) rfl rfl (wX12_bits G S_3 x5_1) (fun r_5 => ?_)
                    refine qr_iload (n := 178) 3 (dkX12_cellar (i := 96) rfl) rfl rfl ?_
                    refine qr_csi (n := 181) [.int x4_2] (dkX12_cellar (i := 97) rfl) rfl kvX12_453 rfl rfl (Nat.le_of_ble_eq_true rfl) rfl rfl (wX12_bits G S_3 x4_2) (fun r_6 => ?_)
                    refine qr_j (fun K_5 : Option (qv_St × Int32) => VV G Lm X RX12 cX12_cellar 6 (some .int) 11 qe_m 212 [(0, .ref (G.2.2.1 0)), (2, .int x2), (3, .int x3_1), (5, .int x5_1)] [] S_3 (K_5)) (?_) (fun K_5 hK_5 => ?_)
                    · refine qr_iload (n := 214) 3 (dkX12_cellar (i := 111) rfl) rfl rfl ?_
                      refine qr_istore (n := 216) (lv2 := [(0, .ref (G.2.2.1 0)), (2, .int x2), (3, .int x3_1), (4, .int x5_1), (5, .int x5_1)]) [1, 2, 3, 0, 4] (dkX12_cellar (i := 112) rfl) rfl (by decide) rfl ?_
                      exact hK_4 x5_1
                    · refine qr_icmp_lt (t := 212) (n := 184) (dkX12_cellar (i := 98) rfl) (by decide) rfl ?_ ?_
                      · refine qr_sub [0, 1, 2, 4] rfl ?_
                        exact hK_5
                      · refine qr_iload (n := 186) 4 (dkX12_cellar (i := 99) rfl) rfl rfl ?_
                        refine qr_csi (n := 189) [.int x5_1] (dkX12_cellar (i := 100) rfl) rfl kvX12_453 rfl rfl (Nat.le_of_ble_eq_true rfl) rfl rfl (wX12_bits G S_3 x5_1) (fun r_7 => ?_)
                        refine qr_iload (n := 191) 3 (dkX12_cellar (i := 101) rfl) rfl rfl ?_
                        refine qr_csi (n := 194) [.int x4_2] (dkX12_cellar (i := 102) rfl) rfl kvX12_453 rfl rfl (Nat.le_of_ble_eq_true rfl) rfl rfl (wX12_bits G S_3 x4_2) (fun r_8 => ?_)
                        refine qr_icmp_ne (t := 216) (n := 197) (dkX12_cellar (i := 103) rfl) (by decide) rfl ?_ ?_
                        · exact hK_4 x4_2
                        · refine qr_aload_n (n := 198) 0 (dkX12_cellar (i := 104) rfl) rfl rfl ?_
                          refine qr_iload (n := 200) 4 (dkX12_cellar (i := 105) rfl) rfl rfl ?_
                          refine qr_cvi (n := 203) 0 [.int x5_1] (dkX12_cellar (i := 106) rfl) rfl kvX12_456 rfl rfl (Nat.le_of_ble_eq_true rfl) rfl rfl lmO rfl (wX12_shotsOf G S_3 x5_1) (fun r_9 => ?_)
                          refine qr_aload_n (n := 204) 0 (dkX12_cellar (i := 107) rfl) rfl rfl ?_
                          refine qr_iload (n := 206) 3 (dkX12_cellar (i := 108) rfl) rfl rfl ?_
                          refine qr_cvi (n := 209) 0 [.int x4_2] (dkX12_cellar (i := 109) rfl) rfl kvX12_456 rfl rfl (Nat.le_of_ble_eq_true rfl) rfl rfl lmO rfl (wX12_shotsOf G S_3 x4_2) (fun r_10 => ?_)
                          refine qr_icmp_ge (t := 216) (n := 212) (dkX12_cellar (i := 110) rfl) (by decide) rfl ?_ ?_
                          · exact hK_4 x4_2
                          · refine qr_sub [0, 1, 2, 4] rfl ?_
                            exact hK_5
          · refine qr_lp2 (fun (S_4 : qv_St) (x3_2 : Int32) => [(0, .ref (G.2.2.1 0)), (1, .int x1), (2, .int x2), (3, .int x3_2)]) (fun (S_4 : qv_St) (x3_2 : Int32) => S_4) (fun self_2 hself_2 S_4 x3_2 => ?_) qv_N S_2 1
            refine qr_iload_n (n := 73) 3 (dkX12_cellar (i := 40) rfl) rfl rfl ?_
            refine qr_aload_n (n := 74) 0 (dkX12_cellar (i := 41) rfl) rfl rfl ?_
            refine qr_geti (n := 77) 0 60 (dkX12_cellar (i := 42) rfl) rfl lmO rfl gnX12 (Nat.le_of_ble_eq_true rfl) kfX12_426 rfl ?_
            refine qr_icmp_gt (t := 136) (n := 80) (dkX12_cellar (i := 43) rfl) (by decide) rfl ?_ ?_
            · refine qr_sub [0, 2] rfl ?_
              exact hK_2 S_4
            · refine qr_iconst (n := 81) 0 (dkX12_cellar (i := 44) rfl) rfl (by decide) ?_
              refine qr_istore (n := 83) (lv2 := [(0, .ref (G.2.2.1 0)), (1, .int x1), (2, .int x2), (3, .int x3_2), (4, .int 0)]) [1, 2, 3, 4, 0] (dkX12_cellar (i := 45) rfl) rfl (by decide) rfl ?_
              refine qr_j (fun K_6 : qv_St → Option (qv_St × Int32) => ∀ (S_5 : qv_St), VV G Lm X RX12 cX12_cellar 6 (some .int) 11 qe_m 130 [(0, .ref (G.2.2.1 0)), (1, .int x1), (2, .int x2), (3, .int x3_2)] [] S_5 (K_6 S_5)) (fun S_5 => ?_) (fun K_6 hK_6 => ?_)
              · refine qr_iinc (n := 133) (v := 1) (lv2 := [(0, .ref (G.2.2.1 0)), (1, .int x1), (2, .int x2), (3, .int (x3_2 + 1))]) 3 [1, 2, 3, 0] (dkX12_cellar (i := 69) rfl) rfl rfl (by decide) (by decide) rfl ?_
                refine qr_goto (n := 72) (dkX12_cellar (i := 70) rfl) (by decide) ?_
                exact hself_2 S_5 (x3_2 + 1)
              · refine qr_lp2 (fun (S_6 : qv_St) (x4_4 : Int32) => [(0, .ref (G.2.2.1 0)), (1, .int x1), (2, .int x2), (3, .int x3_2), (4, .int x4_4)]) (fun (S_6 : qv_St) (x4_4 : Int32) => S_6) (fun self_3 hself_3 S_6 x4_4 => ?_) qv_N S_4 0
                refine qr_iload (n := 85) 4 (dkX12_cellar (i := 46) rfl) rfl rfl ?_
                refine qr_iload_n (n := 86) 3 (dkX12_cellar (i := 47) rfl) rfl rfl ?_
                refine qr_csi (n := 89) [.int x3_2] (dkX12_cellar (i := 48) rfl) rfl kvX12_432 rfl rfl (Nat.le_of_ble_eq_true rfl) rfl rfl (wX12_fives G S_6 x3_2) (fun r_11 => ?_)
                refine qr_icmp_ge (t := 130) (n := 92) (dkX12_cellar (i := 49) rfl) (by decide) rfl ?_ ?_
                · refine qr_sub [0, 1, 2, 3] rfl ?_
                  exact hK_6 S_6
                · refine qr_aload_n (n := 93) 0 (dkX12_cellar (i := 50) rfl) rfl rfl ?_
                  refine qr_iload (n := 95) 4 (dkX12_cellar (i := 51) rfl) rfl rfl ?_
                  refine qr_iload_n (n := 96) 3 (dkX12_cellar (i := 52) rfl) rfl rfl ?_
                  refine qr_cvi (n := 99) 0 [.int x4_4, .int x3_2] (dkX12_cellar (i := 53) rfl) rfl kvX12_441 rfl rfl (Nat.le_of_ble_eq_true rfl) rfl rfl lmO rfl (wX12_endBy G S_6 x4_4 x3_2) (fun r_12 => ?_)
                  refine qr_istore (n := 101) (lv2 := [(0, .ref (G.2.2.1 0)), (1, .int x1), (2, .int x2), (3, .int x3_2), (4, .int x4_4), (5, .int r_12)]) [1, 2, 3, 4, 5, 0] (dkX12_cellar (i := 54) rfl) rfl (by decide) rfl ?_
                  refine qr_iload (n := 103) 5 (dkX12_cellar (i := 55) rfl) rfl rfl ?_
                  refine qr_j (fun K_7 : qv_St → Option (qv_St × Int32) => ∀ (S_7 : qv_St), VV G Lm X RX12 cX12_cellar 6 (some .int) 11 qe_m 124 [(0, .ref (G.2.2.1 0)), (1, .int x1), (2, .int x2), (3, .int x3_2), (4, .int x4_4)] [] S_7 (K_7 S_7)) (fun S_7 => ?_) (fun K_7 hK_7 => ?_)
                  · refine qr_iinc (n := 127) (v := 1) (lv2 := [(0, .ref (G.2.2.1 0)), (1, .int x1), (2, .int x2), (3, .int x3_2), (4, .int (x4_4 + 1))]) 4 [1, 2, 3, 4, 0] (dkX12_cellar (i := 67) rfl) rfl rfl (by decide) (by decide) rfl ?_
                    refine qr_goto (n := 83) (dkX12_cellar (i := 68) rfl) (by decide) ?_
                    exact hself_3 S_7 (x4_4 + 1)
                  · refine qr_if_lt (t := 124) (n := 106) (dkX12_cellar (i := 56) rfl) (by decide) rfl ?_ ?_
                    · refine qr_sub [0, 1, 2, 3, 4] rfl ?_
                      exact hK_7 S_6
                    · refine qr_iload (n := 108) 5 (dkX12_cellar (i := 57) rfl) rfl rfl ?_
                      refine qr_iload_n (n := 109) 1 (dkX12_cellar (i := 58) rfl) rfl rfl ?_
                      refine qr_icmp_gt (t := 124) (n := 112) (dkX12_cellar (i := 59) rfl) (by decide) rfl ?_ ?_
                      · refine qr_sub [0, 1, 2, 3, 4] rfl ?_
                        exact hK_7 S_6
                      · refine qr_aload_n (n := 113) 0 (dkX12_cellar (i := 60) rfl) rfl rfl ?_
                        refine qr_geta (n := 116) 0 64 42 (dkX12_cellar (i := 61) rfl) rfl lmO rfl gnX12 (Nat.le_of_ble_eq_true rfl) kfX12_143 rfl ?_
                        refine qr_iload (n := 118) 4 (dkX12_cellar (i := 62) rfl) rfl rfl ?_
                        refine qr_iload_n (n := 119) 3 (dkX12_cellar (i := 63) rfl) rfl rfl ?_
                        refine qr_csi (n := 122) [.int x4_4, .int x3_2] (dkX12_cellar (i := 64) rfl) rfl kvX12_450 rfl rfl (Nat.le_of_ble_eq_true rfl) rfl rfl (wX12_usedBy G S_6 x4_4 x3_2) (fun r_13 => ?_)
                        refine qr_iconst (n := 123) 1 (dkX12_cellar (i := 65) rfl) rfl (by decide) ?_
                        refine qr_zast (n := 124) 42 32 (dkX12_cellar (i := 66) rfl) rfl lmA_42 (fun S_8 => ?_)
                        refine qr_sub [0, 1, 2, 3, 4] rfl ?_
                        exact hK_7 S_8
        · refine qr_lp2 (fun (S_9 : qv_St) (x3_3 : Int32) => [(0, .ref (G.2.2.1 0)), (1, .int x1), (2, .int x2), (3, .int x3_3)]) (fun (S_9 : qv_St) (x3_3 : Int32) => S_9) (fun self_4 hself_4 S_9 x3_3 => ?_) qv_N S_1 0
          refine qr_iload_n (n := 44) 3 (dkX12_cellar (i := 24) rfl) rfl rfl ?_
          refine qr_bipush (n := 46) 32 (dkX12_cellar (i := 25) rfl) rfl (by decide) ?_
          refine qr_icmp_ge (t := 70) (n := 49) (dkX12_cellar (i := 26) rfl) (by decide) rfl ?_ ?_
          · refine qr_sub [0, 1, 2] rfl ?_
            exact hK_1 S_9
          · refine qr_aload_n (n := 50) 0 (dkX12_cellar (i := 27) rfl) rfl rfl ?_
            refine qr_geta (n := 53) 0 64 42 (dkX12_cellar (i := 28) rfl) rfl lmO rfl gnX12 (Nat.le_of_ble_eq_true rfl) kfX12_143 rfl ?_
            refine qr_iload_n (n := 54) 3 (dkX12_cellar (i := 29) rfl) rfl rfl ?_
            refine qr_iload_n (n := 55) 3 (dkX12_cellar (i := 30) rfl) rfl rfl ?_
            refine qr_j (fun K_8 : Int32 → Option (qv_St × Int32) => ∀ (t_1 : Int32), VV G Lm X RX12 cX12_cellar 6 (some .int) 11 qe_m 63 [(0, .ref (G.2.2.1 0)), (1, .int x1), (2, .int x2), (3, .int x3_3)] [.int t_1, .int x3_3, .ref (G.2.2.1 42)] S_9 (K_8 t_1)) (fun t_1 => ?_) (fun K_8 hK_8 => ?_)
            · refine qr_zast (n := 64) 42 32 (dkX12_cellar (i := 35) rfl) rfl lmA_42 (fun S_10 => ?_)
              refine qr_iinc (n := 67) (v := 1) (lv2 := [(0, .ref (G.2.2.1 0)), (1, .int x1), (2, .int x2), (3, .int (x3_3 + 1))]) 3 [1, 2, 3, 0] (dkX12_cellar (i := 36) rfl) rfl rfl (by decide) (by decide) rfl ?_
              refine qr_goto (n := 43) (dkX12_cellar (i := 37) rfl) (by decide) ?_
              exact hself_4 S_10 (x3_3 + 1)
            · refine qr_if_ne (t := 62) (n := 58) (dkX12_cellar (i := 31) rfl) (by decide) rfl ?_ ?_
              · refine qr_iconst (n := 63) 0 (dkX12_cellar (i := 34) rfl) rfl (by decide) ?_
                exact hK_8 0
              · refine qr_iconst (n := 59) 1 (dkX12_cellar (i := 32) rfl) rfl (by decide) ?_
                refine qr_goto (n := 63) (dkX12_cellar (i := 33) rfl) (by decide) ?_
                exact hK_8 1
      · refine qr_bipush (n := 36) (-2) (dkX12_cellar (i := 18) rfl) rfl (by decide) ?_
        exact qr_iret (dkX12_cellar (i := 19) rfl) rfl rfl
    · refine qr_iconst (n := 21) (-1) (dkX12_cellar (i := 10) rfl) rfl (by decide) ?_
      exact qr_iret (dkX12_cellar (i := 11) rfl) rfl rfl
def tbX12_bribe : List (Nat × Instr × Nat) := [(0, .aload_n 0, 1), (1, .iload_n 1, 1), (2, .invokevirtual 390, 3), (5, .ifCond .eq 12, 3), (8, .iload_n 2, 1), (9, .iconst 0, 1), (10, .iconst 1, 1), (11, .invokestatic 319, 3), (14, .ifCond .ne 5, 3), (17, .iconst (-1), 1), (18, .ireturn, 1), (19, .aload_n 0, 1), (20, .getfield 65, 3), (23, .aload_n 0, 1), (24, .getfield 242, 3), (27, .iaload, 1), (28, .ifCond .ne 6, 3), (31, .bipush (-2), 2), (33, .ireturn, 1), (34, .aload_n 0, 1), (35, .invokevirtual 384, 3), (38, .aload_n 0, 1), (39, .aload_n 0, 1), (40, .getfield 128, 3), (43, .iconst 1, 1), (44, .iaload, 1), (45, .sipush 310, 3), (48, .invokevirtual 396, 3), (51, .aload_n 0, 1), (52, .iload_n 1, 1), (53, .iconst 0, 1), (54, .invokevirtual 423, 3), (57, .istore_n 3, 1), (58, .iload_n 3, 1), (59, .ifCond .ge 7, 3), (62, .sipush 301, 3), (65, .istore_n 3, 1), (66, .bipush (-2), 2), (68, .istore 4, 2), (70, .iload_n 3, 1), (71, .istore 5, 2), (73, .iconst 0, 1), (74, .istore 6, 2), (76, .iload 6, 2), (78, .aload_n 0, 1), (79, .getfield 43, 3), (82, .aload_n 0, 1), (83, .getfield 242, 3), (86, .iaload, 1), (87, .if_icmp .ge 98, 3), (90, .aload_n 0, 1), (91, .invokevirtual 384, 3), (94, .aload_n 0, 1), (95, .getfield 128, 3), (98, .iconst 4, 1), (99, .iload 6, 2), (101, .iadd, 1), (102, .iaload, 1), (103, .aload_n 0, 1), (104, .getfield 128, 3), (107, .iconst 0, 1), (108, .iaload, 1), (109, .sipush 300, 3), (112, .iadd, 1), (113, .if_icmp .ge 22, 3), (116, .aload_n 0, 1), (117, .getfield 128, 3), (120, .iconst 4, 1), (121, .iload 6, 2), (123, .iadd, 1), (124, .aload_n 0, 1), (125, .getfield 128, 3), (128, .iconst 0, 1), (129, .iaload, 1), (130, .sipush 300, 3), (133, .iadd, 1), (134, .iastore, 1), (135, .aload_n 0, 1), (136, .aload_n 0, 1), (137, .getfield 128, 3), (140, .iconst 1, 1), (141, .iaload, 1), (142, .sipush 310, 3), (145, .invokevirtual 396, 3), (148, .aload_n 0, 1), (149, .iload_n 1, 1), (150, .iconst 0, 1), (151, .invokevirtual 423, 3), (154, .istore 7, 2), (156, .iload 7, 2), (158, .ifCond .lt 21, 3), (161, .iload 7, 2), (163, .iload 5, 2), (165, .if_icmp .lt 6, 3), (168, .goto 11, 3), (171, .iload 6, 2), (173, .istore 4, 2), (175, .iload 7, 2), (177, .istore 5, 2), (179, .iinc 6 1, 3), (182, .goto (-106), 3), (185, .iload 4, 2), (187, .ifCond .lt 7, 3), (190, .iload_n 2, 1), (191, .ifCond .ne 8, 3), (194, .iload 4, 2), (196, .goto 7, 3), (199, .iload_n 3, 1), (200, .iload 5, 2), (202, .isub, 1), (203, .ireturn, 1)]
set_option maxRecDepth 20000 in
theorem daX12_bribe : ∀ x ∈ tbX12_bribe, decode cX12_bribe x.1 = .ok x.2 := by decide +kernel
theorem dkX12_bribe {i pc n : Nat} {ins : Instr} (h : tbX12_bribe[i]? = some (pc, ins, n)) : decode cX12_bribe pc = .ok (ins, n) := daX12_bribe (pc, ins, n) (List.mem_of_getElem? h)
def fX12_bribe (S0 : qv_St) (x1 : Int32) (x2 : Int32) : Option (qv_St × Int32) :=
  (fX12_isShot S0 x1).bind fun r_1 =>
  if r_1 = 0 then
    some (S0, (-1))
  else
    (fX12_in x2 0 1).bind fun r_2 =>
    if r_2 = 0 then
      some (S0, (-1))
    else
      qv_ck (S0.1 0 18) 2 <|
      if (S0.1 16 (Int32.toNatClampNeg (S0.1 0 18))) = 0 then
        some (S0, (-2))
      else
        (fX12_copies S0).bind fun S_1 =>
        qv_ck 1 32 <|
        (fX12_fillsLoud S_1 (S_1.1 37 (Int32.toNatClampNeg 1)) 310).bind fun S_2 =>
        qv_cm (fX12_soonest S_2 x1 0) fun S_3 r_3 =>
        qv_j (fun (x3_1 : Int32) =>
          qv_j (fun (S_4 : qv_St) (x4_1 : Int32) (x5_1 : Int32) =>
            qv_j (
              some (S_4, x4_1)) fun K_3 =>
            if x4_1 < 0 then
              K_3
            else
              if x2 = 0 then
                K_3
              else
                some (S_4, (x3_1 - x5_1))) fun K_2 =>
          qv_lp4 qv_N (fun self_1 (S_5 : qv_St) (x4_2 : Int32) (x5_2 : Int32) (x6_1 : Int32) =>
            qv_ck (S_5.1 0 18) 2 <|
            if (S_5.1 9 (Int32.toNatClampNeg (S_5.1 0 18))) ≤ x6_1 then
              K_2 S_5 x4_2 x5_2
            else
              (fX12_copies S_5).bind fun S_6 =>
              qv_ck (4 + x6_1) 32 <|
              qv_ck 0 32 <|
              qv_j (fun (S_7 : qv_St) =>
                qv_ck 1 32 <|
                (fX12_fillsLoud S_7 (S_7.1 37 (Int32.toNatClampNeg 1)) 310).bind fun S_8 =>
                qv_cm (fX12_soonest S_8 x1 0) fun S_9 r_4 =>
                qv_j (fun (x4_3 : Int32) (x5_3 : Int32) =>
                  self_1 S_9 x4_3 x5_3 (x6_1 + 1)) fun K_5 =>
                if r_4 < 0 then
                  K_5 x4_2 x5_2
                else
                  if r_4 < x5_2 then
                    K_5 x6_1 r_4
                  else
                    K_5 x4_2 x5_2) fun K_4 =>
              if ((S_6.1 37 (Int32.toNatClampNeg 0)) + 300) ≤ (S_6.1 37 (Int32.toNatClampNeg (4 + x6_1))) then
                K_4 S_6
              else
                qv_ck 0 32 <|
                qv_ck (4 + x6_1) 32 <| qv_b (qv_si S_6 37 (Int32.toNatClampNeg (4 + x6_1)) ((S_6.1 37 (Int32.toNatClampNeg 0)) + 300)) fun S_10 =>
                K_4 S_10) S_3 (-2) x3_1 0) fun K_1 =>
        if 0 ≤ r_3 then
          K_1 r_3
        else
          K_1 301
set_option maxRecDepth 20000 in
set_option maxHeartbeats 4000000 in
theorem wX12_bribe (G : qv_GT) (S0 : qv_St) (x1 : Int32) (x2 : Int32) : ∀ r, fX12_bribe S0 x1 x2 = some r → Cn G Lm yX12_bribe cX12_bribe 8 (some .int) 10 [.ref (G.2.2.1 0), .int x1, .int x2] S0 (qe_m r) := by
  refine cn_of (own := RX12) (emb := qe_m) (lv := [(0, .ref (G.2.2.1 0)), (1, .int x1), (2, .int x2)]) rfl rfl (Nat.le_of_ble_eq_true rfl) rfl (fun X => ?_)
  unfold fX12_bribe
  refine qr_aload_n (n := 1) 0 (dkX12_bribe (i := 0) rfl) rfl rfl ?_
  refine qr_iload_n (n := 2) 1 (dkX12_bribe (i := 1) rfl) rfl rfl ?_
  refine qr_cvi (n := 5) 0 [.int x1] (dkX12_bribe (i := 2) rfl) rfl kvX12_390 rfl rfl (Nat.le_of_ble_eq_true rfl) rfl rfl lmO rfl (wX12_isShot G S0 x1) (fun r_1 => ?_)
  refine qr_if_eq (t := 17) (n := 8) (dkX12_bribe (i := 3) rfl) (by decide) rfl ?_ ?_
  · refine qr_iconst (n := 18) (-1) (dkX12_bribe (i := 9) rfl) rfl (by decide) ?_
    exact qr_iret (dkX12_bribe (i := 10) rfl) rfl rfl
  · refine qr_iload_n (n := 9) 2 (dkX12_bribe (i := 4) rfl) rfl rfl ?_
    refine qr_iconst (n := 10) 0 (dkX12_bribe (i := 5) rfl) rfl (by decide) ?_
    refine qr_iconst (n := 11) 1 (dkX12_bribe (i := 6) rfl) rfl (by decide) ?_
    refine qr_csi (n := 14) [.int x2, .int 0, .int 1] (dkX12_bribe (i := 7) rfl) rfl kvX12_319 rfl rfl (Nat.le_of_ble_eq_true rfl) rfl rfl (wX12_in G S0 x2 0 1) (fun r_2 => ?_)
    refine qr_if_ne (t := 19) (n := 17) (dkX12_bribe (i := 8) rfl) (by decide) rfl ?_ ?_
    · refine qr_aload_n (n := 20) 0 (dkX12_bribe (i := 11) rfl) rfl rfl ?_
      refine qr_geta (n := 23) 0 29 16 (dkX12_bribe (i := 12) rfl) rfl lmO rfl gnX12 (Nat.le_of_ble_eq_true rfl) kfX12_65 rfl ?_
      refine qr_aload_n (n := 24) 0 (dkX12_bribe (i := 13) rfl) rfl rfl ?_
      refine qr_geti (n := 27) 0 18 (dkX12_bribe (i := 14) rfl) rfl lmO rfl gnX12 (Nat.le_of_ble_eq_true rfl) kfX12_242 rfl ?_
      refine qr_iald (n := 28) 16 2 (dkX12_bribe (i := 15) rfl) rfl lmA_16 ?_
      refine qr_if_ne (t := 34) (n := 31) (dkX12_bribe (i := 16) rfl) (by decide) rfl ?_ ?_
      · refine qr_aload_n (n := 35) 0 (dkX12_bribe (i := 19) rfl) rfl rfl ?_
        refine qr_cvu (n := 38) 0 [] (dkX12_bribe (i := 20) rfl) rfl kvX12_384 rfl rfl (Nat.le_of_ble_eq_true rfl) rfl rfl lmO rfl (wX12_copies G S0) (fun S_1 => ?_)
        refine qr_aload_n (n := 39) 0 (dkX12_bribe (i := 21) rfl) rfl rfl ?_
        refine qr_aload_n (n := 40) 0 (dkX12_bribe (i := 22) rfl) rfl rfl ?_
        refine qr_geta (n := 43) 0 54 37 (dkX12_bribe (i := 23) rfl) rfl lmO rfl gnX12 (Nat.le_of_ble_eq_true rfl) kfX12_128 rfl ?_
        refine qr_iconst (n := 44) 1 (dkX12_bribe (i := 24) rfl) rfl (by decide) ?_
        refine qr_iald (n := 45) 37 32 (dkX12_bribe (i := 25) rfl) rfl lmA_37 ?_
        refine qr_sipush (n := 48) 310 (dkX12_bribe (i := 26) rfl) rfl (by decide) ?_
        refine qr_cvu (n := 51) 0 [.int (S_1.1 37 (Int32.toNatClampNeg 1)), .int 310] (dkX12_bribe (i := 27) rfl) rfl kvX12_396 rfl rfl (Nat.le_of_ble_eq_true rfl) rfl rfl lmO rfl (wX12_fillsLoud G S_1 (S_1.1 37 (Int32.toNatClampNeg 1)) 310) (fun S_2 => ?_)
        refine qr_aload_n (n := 52) 0 (dkX12_bribe (i := 28) rfl) rfl rfl ?_
        refine qr_iload_n (n := 53) 1 (dkX12_bribe (i := 29) rfl) rfl rfl ?_
        refine qr_iconst (n := 54) 0 (dkX12_bribe (i := 30) rfl) rfl (by decide) ?_
        refine qr_cvm (n := 57) 0 [.int x1, .int 0] (dkX12_bribe (i := 31) rfl) rfl kvX12_423 rfl rfl (Nat.le_of_ble_eq_true rfl) rfl rfl lmO rfl (wX12_soonest G S_2 x1 0) (fun S_3 r_3 => ?_)
        refine qr_istore_n (n := 58) (lv2 := [(0, .ref (G.2.2.1 0)), (1, .int x1), (2, .int x2), (3, .int r_3)]) [1, 2, 3, 0] (dkX12_bribe (i := 32) rfl) rfl rfl (by decide) rfl ?_
        refine qr_iload_n (n := 59) 3 (dkX12_bribe (i := 33) rfl) rfl rfl ?_
        refine qr_j (fun K_1 : Int32 → Option (qv_St × Int32) => ∀ (x3_1 : Int32), VV G Lm X RX12 cX12_bribe 8 (some .int) 10 qe_m 66 [(0, .ref (G.2.2.1 0)), (1, .int x1), (2, .int x2), (3, .int x3_1)] [] S_3 (K_1 x3_1)) (fun x3_1 => ?_) (fun K_1 hK_1 => ?_)
        · refine qr_bipush (n := 68) (-2) (dkX12_bribe (i := 37) rfl) rfl (by decide) ?_
          refine qr_istore (n := 70) (lv2 := [(0, .ref (G.2.2.1 0)), (1, .int x1), (2, .int x2), (3, .int x3_1), (4, .int (-2))]) [1, 2, 3, 4, 0] (dkX12_bribe (i := 38) rfl) rfl (by decide) rfl ?_
          refine qr_iload_n (n := 71) 3 (dkX12_bribe (i := 39) rfl) rfl rfl ?_
          refine qr_istore (n := 73) (lv2 := [(0, .ref (G.2.2.1 0)), (1, .int x1), (2, .int x2), (3, .int x3_1), (4, .int (-2)), (5, .int x3_1)]) [1, 2, 3, 4, 5, 0] (dkX12_bribe (i := 40) rfl) rfl (by decide) rfl ?_
          refine qr_iconst (n := 74) 0 (dkX12_bribe (i := 41) rfl) rfl (by decide) ?_
          refine qr_istore (n := 76) (lv2 := [(0, .ref (G.2.2.1 0)), (1, .int x1), (2, .int x2), (3, .int x3_1), (4, .int (-2)), (5, .int x3_1), (6, .int 0)]) [1, 2, 3, 4, 5, 6, 0] (dkX12_bribe (i := 42) rfl) rfl (by decide) rfl ?_
          refine qr_j (fun K_2 : qv_St → Int32 → Int32 → Option (qv_St × Int32) => ∀ (S_4 : qv_St) (x4_1 : Int32) (x5_1 : Int32), VV G Lm X RX12 cX12_bribe 8 (some .int) 10 qe_m 185 [(2, .int x2), (3, .int x3_1), (4, .int x4_1), (5, .int x5_1)] [] S_4 (K_2 S_4 x4_1 x5_1)) (fun S_4 x4_1 x5_1 => ?_) (fun K_2 hK_2 => ?_)
          · refine qr_iload (n := 187) 2 (dkX12_bribe (i := 101) rfl) rfl rfl ?_
            refine qr_j (fun K_3 : Option (qv_St × Int32) => VV G Lm X RX12 cX12_bribe 8 (some .int) 10 qe_m 194 [(4, .int x4_1)] [] S_4 (K_3)) (?_) (fun K_3 hK_3 => ?_)
            · refine qr_iload (n := 196) 0 (dkX12_bribe (i := 105) rfl) rfl rfl ?_
              refine qr_goto (n := 203) (dkX12_bribe (i := 106) rfl) (by decide) ?_
              exact qr_iret (dkX12_bribe (i := 110) rfl) rfl rfl
            · refine qr_if_lt (t := 194) (n := 190) (dkX12_bribe (i := 102) rfl) (by decide) rfl ?_ ?_
              · refine qr_sub [2] rfl ?_
                exact hK_3
              · refine qr_iload_n (n := 191) 0 (dkX12_bribe (i := 103) rfl) rfl rfl ?_
                refine qr_if_ne (t := 199) (n := 194) (dkX12_bribe (i := 104) rfl) (by decide) rfl ?_ ?_
                · refine qr_iload_n (n := 200) 1 (dkX12_bribe (i := 107) rfl) rfl rfl ?_
                  refine qr_iload (n := 202) 3 (dkX12_bribe (i := 108) rfl) rfl rfl ?_
                  refine qr_isub (n := 203) (dkX12_bribe (i := 109) rfl) rfl ?_
                  exact qr_iret (dkX12_bribe (i := 110) rfl) rfl rfl
                · refine qr_sub [2] rfl ?_
                  exact hK_3
          · refine qr_lp4 (fun (S_5 : qv_St) (x4_2 : Int32) (x5_2 : Int32) (x6_1 : Int32) => [(0, .ref (G.2.2.1 0)), (1, .int x1), (2, .int x2), (3, .int x3_1), (4, .int x4_2), (5, .int x5_2), (6, .int x6_1)]) (fun (S_5 : qv_St) (x4_2 : Int32) (x5_2 : Int32) (x6_1 : Int32) => S_5) (fun self_1 hself_1 S_5 x4_2 x5_2 x6_1 => ?_) qv_N S_3 (-2) x3_1 0
            refine qr_iload (n := 78) 6 (dkX12_bribe (i := 43) rfl) rfl rfl ?_
            refine qr_aload_n (n := 79) 0 (dkX12_bribe (i := 44) rfl) rfl rfl ?_
            refine qr_geta (n := 82) 0 22 9 (dkX12_bribe (i := 45) rfl) rfl lmO rfl gnX12 (Nat.le_of_ble_eq_true rfl) kfX12_43 rfl ?_
            refine qr_aload_n (n := 83) 0 (dkX12_bribe (i := 46) rfl) rfl rfl ?_
            refine qr_geti (n := 86) 0 18 (dkX12_bribe (i := 47) rfl) rfl lmO rfl gnX12 (Nat.le_of_ble_eq_true rfl) kfX12_242 rfl ?_
            refine qr_iald (n := 87) 9 2 (dkX12_bribe (i := 48) rfl) rfl lmA_9 ?_
            refine qr_icmp_ge (t := 185) (n := 90) (dkX12_bribe (i := 49) rfl) (by decide) rfl ?_ ?_
            · refine qr_sub [2, 3, 4, 5] rfl ?_
              exact hK_2 S_5 x4_2 x5_2
            · refine qr_aload_n (n := 91) 0 (dkX12_bribe (i := 50) rfl) rfl rfl ?_
              refine qr_cvu (n := 94) 0 [] (dkX12_bribe (i := 51) rfl) rfl kvX12_384 rfl rfl (Nat.le_of_ble_eq_true rfl) rfl rfl lmO rfl (wX12_copies G S_5) (fun S_6 => ?_)
              refine qr_aload_n (n := 95) 0 (dkX12_bribe (i := 52) rfl) rfl rfl ?_
              refine qr_geta (n := 98) 0 54 37 (dkX12_bribe (i := 53) rfl) rfl lmO rfl gnX12 (Nat.le_of_ble_eq_true rfl) kfX12_128 rfl ?_
              refine qr_iconst (n := 99) 4 (dkX12_bribe (i := 54) rfl) rfl (by decide) ?_
              refine qr_iload (n := 101) 6 (dkX12_bribe (i := 55) rfl) rfl rfl ?_
              refine qr_iadd (n := 102) (dkX12_bribe (i := 56) rfl) rfl ?_
              refine qr_iald (n := 103) 37 32 (dkX12_bribe (i := 57) rfl) rfl lmA_37 ?_
              refine qr_aload_n (n := 104) 0 (dkX12_bribe (i := 58) rfl) rfl rfl ?_
              refine qr_geta (n := 107) 0 54 37 (dkX12_bribe (i := 59) rfl) rfl lmO rfl gnX12 (Nat.le_of_ble_eq_true rfl) kfX12_128 rfl ?_
              refine qr_iconst (n := 108) 0 (dkX12_bribe (i := 60) rfl) rfl (by decide) ?_
              refine qr_iald (n := 109) 37 32 (dkX12_bribe (i := 61) rfl) rfl lmA_37 ?_
              refine qr_sipush (n := 112) 300 (dkX12_bribe (i := 62) rfl) rfl (by decide) ?_
              refine qr_iadd (n := 113) (dkX12_bribe (i := 63) rfl) rfl ?_
              refine qr_j (fun K_4 : qv_St → Option (qv_St × Int32) => ∀ (S_7 : qv_St), VV G Lm X RX12 cX12_bribe 8 (some .int) 10 qe_m 135 [(0, .ref (G.2.2.1 0)), (1, .int x1), (2, .int x2), (3, .int x3_1), (4, .int x4_2), (5, .int x5_2), (6, .int x6_1)] [] S_7 (K_4 S_7)) (fun S_7 => ?_) (fun K_4 hK_4 => ?_)
              · refine qr_aload_n (n := 136) 0 (dkX12_bribe (i := 77) rfl) rfl rfl ?_
                refine qr_aload_n (n := 137) 0 (dkX12_bribe (i := 78) rfl) rfl rfl ?_
                refine qr_geta (n := 140) 0 54 37 (dkX12_bribe (i := 79) rfl) rfl lmO rfl gnX12 (Nat.le_of_ble_eq_true rfl) kfX12_128 rfl ?_
                refine qr_iconst (n := 141) 1 (dkX12_bribe (i := 80) rfl) rfl (by decide) ?_
                refine qr_iald (n := 142) 37 32 (dkX12_bribe (i := 81) rfl) rfl lmA_37 ?_
                refine qr_sipush (n := 145) 310 (dkX12_bribe (i := 82) rfl) rfl (by decide) ?_
                refine qr_cvu (n := 148) 0 [.int (S_7.1 37 (Int32.toNatClampNeg 1)), .int 310] (dkX12_bribe (i := 83) rfl) rfl kvX12_396 rfl rfl (Nat.le_of_ble_eq_true rfl) rfl rfl lmO rfl (wX12_fillsLoud G S_7 (S_7.1 37 (Int32.toNatClampNeg 1)) 310) (fun S_8 => ?_)
                refine qr_aload_n (n := 149) 0 (dkX12_bribe (i := 84) rfl) rfl rfl ?_
                refine qr_iload_n (n := 150) 1 (dkX12_bribe (i := 85) rfl) rfl rfl ?_
                refine qr_iconst (n := 151) 0 (dkX12_bribe (i := 86) rfl) rfl (by decide) ?_
                refine qr_cvm (n := 154) 0 [.int x1, .int 0] (dkX12_bribe (i := 87) rfl) rfl kvX12_423 rfl rfl (Nat.le_of_ble_eq_true rfl) rfl rfl lmO rfl (wX12_soonest G S_8 x1 0) (fun S_9 r_4 => ?_)
                refine qr_istore (n := 156) (lv2 := [(0, .ref (G.2.2.1 0)), (1, .int x1), (2, .int x2), (3, .int x3_1), (4, .int x4_2), (5, .int x5_2), (6, .int x6_1), (7, .int r_4)]) [1, 2, 3, 4, 5, 6, 7, 0] (dkX12_bribe (i := 88) rfl) rfl (by decide) rfl ?_
                refine qr_iload (n := 158) 7 (dkX12_bribe (i := 89) rfl) rfl rfl ?_
                refine qr_j (fun K_5 : Int32 → Int32 → Option (qv_St × Int32) => ∀ (x4_3 : Int32) (x5_3 : Int32), VV G Lm X RX12 cX12_bribe 8 (some .int) 10 qe_m 179 [(0, .ref (G.2.2.1 0)), (1, .int x1), (2, .int x2), (3, .int x3_1), (4, .int x4_3), (5, .int x5_3), (6, .int x6_1)] [] S_9 (K_5 x4_3 x5_3)) (fun x4_3 x5_3 => ?_) (fun K_5 hK_5 => ?_)
                · refine qr_iinc (n := 182) (v := 1) (lv2 := [(0, .ref (G.2.2.1 0)), (1, .int x1), (2, .int x2), (3, .int x3_1), (4, .int x4_3), (5, .int x5_3), (6, .int (x6_1 + 1))]) 6 [1, 2, 3, 4, 5, 6, 0] (dkX12_bribe (i := 99) rfl) rfl rfl (by decide) (by decide) rfl ?_
                  refine qr_goto (n := 76) (dkX12_bribe (i := 100) rfl) (by decide) ?_
                  exact hself_1 S_9 x4_3 x5_3 (x6_1 + 1)
                · refine qr_if_lt (t := 179) (n := 161) (dkX12_bribe (i := 90) rfl) (by decide) rfl ?_ ?_
                  · refine qr_sub [0, 1, 2, 3, 4, 5, 6] rfl ?_
                    exact hK_5 x4_2 x5_2
                  · refine qr_iload (n := 163) 7 (dkX12_bribe (i := 91) rfl) rfl rfl ?_
                    refine qr_iload (n := 165) 5 (dkX12_bribe (i := 92) rfl) rfl rfl ?_
                    refine qr_icmp_lt (t := 171) (n := 168) (dkX12_bribe (i := 93) rfl) (by decide) rfl ?_ ?_
                    · refine qr_iload (n := 173) 6 (dkX12_bribe (i := 95) rfl) rfl rfl ?_
                      refine qr_istore (n := 175) (lv2 := [(0, .ref (G.2.2.1 0)), (1, .int x1), (2, .int x2), (3, .int x3_1), (4, .int x6_1), (5, .int x5_2), (6, .int x6_1), (7, .int r_4)]) [1, 2, 3, 4, 0, 5, 6, 7] (dkX12_bribe (i := 96) rfl) rfl (by decide) rfl ?_
                      refine qr_iload (n := 177) 7 (dkX12_bribe (i := 97) rfl) rfl rfl ?_
                      refine qr_istore (n := 179) (lv2 := [(0, .ref (G.2.2.1 0)), (1, .int x1), (2, .int x2), (3, .int x3_1), (4, .int x6_1), (5, .int r_4), (6, .int x6_1), (7, .int r_4)]) [1, 2, 3, 4, 5, 0, 6, 7] (dkX12_bribe (i := 98) rfl) rfl (by decide) rfl ?_
                      refine qr_sub [0, 1, 2, 3, 4, 5, 6] rfl ?_
                      exact hK_5 x6_1 r_4
                    · refine qr_goto (n := 179) (dkX12_bribe (i := 94) rfl) (by decide) ?_
                      refine qr_sub [0, 1, 2, 3, 4, 5, 6] rfl ?_
                      exact hK_5 x4_2 x5_2
              · refine qr_icmp_ge (t := 135) (n := 116) (dkX12_bribe (i := 64) rfl) (by decide) rfl ?_ ?_
                · exact hK_4 S_6
                · refine qr_aload_n (n := 117) 0 (dkX12_bribe (i := 65) rfl) rfl rfl ?_
                  refine qr_geta (n := 120) 0 54 37 (dkX12_bribe (i := 66) rfl) rfl lmO rfl gnX12 (Nat.le_of_ble_eq_true rfl) kfX12_128 rfl ?_
                  refine qr_iconst (n := 121) 4 (dkX12_bribe (i := 67) rfl) rfl (by decide) ?_
                  refine qr_iload (n := 123) 6 (dkX12_bribe (i := 68) rfl) rfl rfl ?_
                  refine qr_iadd (n := 124) (dkX12_bribe (i := 69) rfl) rfl ?_
                  refine qr_aload_n (n := 125) 0 (dkX12_bribe (i := 70) rfl) rfl rfl ?_
                  refine qr_geta (n := 128) 0 54 37 (dkX12_bribe (i := 71) rfl) rfl lmO rfl gnX12 (Nat.le_of_ble_eq_true rfl) kfX12_128 rfl ?_
                  refine qr_iconst (n := 129) 0 (dkX12_bribe (i := 72) rfl) rfl (by decide) ?_
                  refine qr_iald (n := 130) 37 32 (dkX12_bribe (i := 73) rfl) rfl lmA_37 ?_
                  refine qr_sipush (n := 133) 300 (dkX12_bribe (i := 74) rfl) rfl (by decide) ?_
                  refine qr_iadd (n := 134) (dkX12_bribe (i := 75) rfl) rfl ?_
                  refine qr_iast (n := 135) 37 32 (dkX12_bribe (i := 76) rfl) rfl lmA_37 (fun S_10 => ?_)
                  exact hK_4 S_10
        · refine qr_if_ge (t := 66) (n := 62) (dkX12_bribe (i := 34) rfl) (by decide) rfl ?_ ?_
          · exact hK_1 r_3
          · refine qr_sipush (n := 65) 301 (dkX12_bribe (i := 35) rfl) rfl (by decide) ?_
            refine qr_istore_n (n := 66) (lv2 := [(0, .ref (G.2.2.1 0)), (1, .int x1), (2, .int x2), (3, .int 301)]) [1, 2, 3, 0] (dkX12_bribe (i := 36) rfl) rfl rfl (by decide) rfl ?_
            exact hK_1 301
      · refine qr_bipush (n := 33) (-2) (dkX12_bribe (i := 17) rfl) rfl (by decide) ?_
        exact qr_iret (dkX12_bribe (i := 18) rfl) rfl rfl
    · refine qr_iconst (n := 18) (-1) (dkX12_bribe (i := 9) rfl) rfl (by decide) ?_
      exact qr_iret (dkX12_bribe (i := 10) rfl) rfl rfl
