def tbX11_next : List (Nat × Instr × Nat) := [(0, .aload_n 0, 1), (1, .iload_n 1, 1), (2, .invokevirtual 120, 3), (5, .ifCond .ne 5, 3), (8, .iconst (-1), 1), (9, .ireturn, 1), (10, .iconst 0, 1), (11, .istore_n 2, 1), (12, .iload_n 2, 1), (13, .sipush 300, 3), (16, .if_icmp .gt 40, 3), (19, .aload_n 0, 1), (20, .getfield 62, 3), (23, .iload_n 1, 1), (24, .aload_n 0, 1), (25, .getfield 42, 3), (28, .getfield 190, 3), (31, .iload_n 2, 1), (32, .iadd, 1), (33, .aload_n 0, 1), (34, .getfield 42, 3), (37, .getfield 142, 3), (40, .iload_n 1, 1), (41, .iaload, 1), (42, .invokevirtual 249, 3), (45, .ifCond .lt 5, 3), (48, .iload_n 2, 1), (49, .ireturn, 1), (50, .iinc 2 1, 3), (53, .goto (-41), 3), (56, .bipush (-2), 2), (58, .ireturn, 1)]
set_option maxRecDepth 20000 in
theorem daX11_next : ∀ x ∈ tbX11_next, decode cX11_next x.1 = .ok x.2 := by decide +kernel
theorem dkX11_next {i pc n : Nat} {ins : Instr} (h : tbX11_next[i]? = some (pc, ins, n)) : decode cX11_next pc = .ok (ins, n) := daX11_next (pc, ins, n) (List.mem_of_getElem? h)
def fX11_next (S0 : qv_St) (x1 : Int32) : Option (qv_St × Int32) :=
  (fX11_isNoise S0 x1).bind fun r_1 =>
  if r_1 = 0 then
    some (S0, (-1))
  else
    qv_lp2 qv_N (fun self_1 (S_1 : qv_St) (x2_1 : Int32) =>
      if 300 < x2_1 then
        some (S_1, (-2))
      else
        qv_ck x1 8 <|
        qv_cm (fX0_ageOf S_1 x1 ((S_1.1 31 0) + x2_1) (S_1.1 32 (Int32.toNatClampNeg x1))) fun S_2 r_2 =>
        if r_2 < 0 then
          self_1 S_2 (x2_1 + 1)
        else
          some (S_2, x2_1)) S0 0
set_option maxRecDepth 20000 in
set_option maxHeartbeats 4000000 in
theorem wX11_next (G : qv_GT) (S0 : qv_St) (x1 : Int32) : ∀ r, fX11_next S0 x1 = some r → Cn G Lk yX11_next cX11_next 3 (some .int) 4 [.ref (G.2.2.1 0), .int x1] S0 (qe_m r) := by
  refine cn_of (own := RX11) (emb := qe_m) (lv := [(0, .ref (G.2.2.1 0)), (1, .int x1)]) rfl rfl (Nat.le_of_ble_eq_true rfl) rfl (fun X => ?_)
  unfold fX11_next
  refine qr_aload_n (n := 1) 0 (dkX11_next (i := 0) rfl) rfl rfl ?_
  refine qr_iload_n (n := 2) 1 (dkX11_next (i := 1) rfl) rfl rfl ?_
  refine qr_cvi (n := 5) 0 [.int x1] (dkX11_next (i := 2) rfl) rfl kvX11_120 rfl rfl (Nat.le_of_ble_eq_true rfl) rfl rfl lkO_0 rfl (wX11_isNoise G S0 x1) (fun r_1 => ?_)
  refine qr_if_ne (t := 10) (n := 8) (dkX11_next (i := 3) rfl) (by decide) rfl ?_ ?_
  · refine qr_iconst (n := 11) 0 (dkX11_next (i := 6) rfl) rfl (by decide) ?_
    refine qr_istore_n (n := 12) (lv2 := [(0, .ref (G.2.2.1 0)), (1, .int x1), (2, .int 0)]) [1, 2, 0] (dkX11_next (i := 7) rfl) rfl rfl (by decide) rfl ?_
    refine qr_lp2 (fun (S_1 : qv_St) (x2_1 : Int32) => [(0, .ref (G.2.2.1 0)), (1, .int x1), (2, .int x2_1)]) (fun (S_1 : qv_St) (x2_1 : Int32) => S_1) (fun self_1 hself_1 S_1 x2_1 => ?_) qv_N S0 0
    refine qr_iload_n (n := 13) 2 (dkX11_next (i := 8) rfl) rfl rfl ?_
    refine qr_sipush (n := 16) 300 (dkX11_next (i := 9) rfl) rfl (by decide) ?_
    refine qr_icmp_gt (t := 56) (n := 19) (dkX11_next (i := 10) rfl) (by decide) rfl ?_ ?_
    · refine qr_bipush (n := 58) (-2) (dkX11_next (i := 30) rfl) rfl (by decide) ?_
      exact qr_iret (dkX11_next (i := 31) rfl) rfl rfl
    · refine qr_aload_n (n := 20) 0 (dkX11_next (i := 11) rfl) rfl rfl ?_
      refine qr_geta (n := 23) 0 8 254 (dkX11_next (i := 12) rfl) rfl lkO_0 rfl gnX11 (Nat.le_of_ble_eq_true rfl) kfX11_62 rfl ?_
      refine qr_iload_n (n := 24) 1 (dkX11_next (i := 13) rfl) rfl rfl ?_
      refine qr_aload_n (n := 25) 0 (dkX11_next (i := 14) rfl) rfl rfl ?_
      refine qr_geta (n := 28) 0 4 31 (dkX11_next (i := 15) rfl) rfl lkO_0 rfl gnX11 (Nat.le_of_ble_eq_true rfl) kfX11_42 rfl ?_
      refine qr_geti (n := 31) 31 0 (dkX11_next (i := 16) rfl) rfl lkO_31 rfl gnX6 (Nat.le_of_ble_eq_true rfl) kfX11_190 rfl ?_
      refine qr_iload_n (n := 32) 2 (dkX11_next (i := 17) rfl) rfl rfl ?_
      refine qr_iadd (n := 33) (dkX11_next (i := 18) rfl) rfl ?_
      refine qr_aload_n (n := 34) 0 (dkX11_next (i := 19) rfl) rfl rfl ?_
      refine qr_geta (n := 37) 0 4 31 (dkX11_next (i := 20) rfl) rfl lkO_0 rfl gnX11 (Nat.le_of_ble_eq_true rfl) kfX11_42 rfl ?_
      refine qr_geta (n := 40) 31 4 32 (dkX11_next (i := 21) rfl) rfl lkO_31 rfl gnX6 (Nat.le_of_ble_eq_true rfl) kfX11_142 rfl ?_
      refine qr_iload_n (n := 41) 1 (dkX11_next (i := 22) rfl) rfl rfl ?_
      refine qr_iald (n := 42) 32 8 (dkX11_next (i := 23) rfl) rfl lkA_32 ?_
      refine qr_cvm (n := 45) 254 [.int x1, .int ((S_1.1 31 0) + x2_1), .int (S_1.1 32 (Int32.toNatClampNeg x1))] (dkX11_next (i := 24) rfl) rfl kvX11_249 rfl rfl (Nat.le_of_ble_eq_true rfl) rfl rfl lkO_254 rfl (wX0_ageOf G S_1 x1 ((S_1.1 31 0) + x2_1) (S_1.1 32 (Int32.toNatClampNeg x1))) (fun S_2 r_2 => ?_)
      refine qr_if_lt (t := 50) (n := 48) (dkX11_next (i := 25) rfl) (by decide) rfl ?_ ?_
      · refine qr_iinc (n := 53) (v := 1) (lv2 := [(0, .ref (G.2.2.1 0)), (1, .int x1), (2, .int (x2_1 + 1))]) 2 [1, 2, 0] (dkX11_next (i := 28) rfl) rfl rfl (by decide) (by decide) rfl ?_
        refine qr_goto (n := 12) (dkX11_next (i := 29) rfl) (by decide) ?_
        exact hself_1 S_2 (x2_1 + 1)
      · refine qr_iload_n (n := 49) 2 (dkX11_next (i := 26) rfl) rfl rfl ?_
        exact qr_iret (dkX11_next (i := 27) rfl) rfl rfl
  · refine qr_iconst (n := 9) (-1) (dkX11_next (i := 4) rfl) rfl (by decide) ?_
    exact qr_iret (dkX11_next (i := 5) rfl) rfl rfl
def tbX11_loudest : List (Nat × Instr × Nat) := [(0, .aload_n 0, 1), (1, .iload_n 1, 1), (2, .invokevirtual 120, 3), (5, .ifCond .eq 11, 3), (8, .aload_n 0, 1), (9, .iload_n 2, 1), (10, .invokevirtual 173, 3), (13, .ifCond .ne 5, 3), (16, .iconst (-1), 1), (17, .ireturn, 1), (18, .aload_n 0, 1), (19, .getfield 71, 3), (22, .iload_n 2, 1), (23, .invokevirtual 184, 3), (26, .iconst 0, 1), (27, .istore_n 3, 1), (28, .iconst 0, 1), (29, .istore 4, 2), (31, .iload 4, 2), (33, .sipush 300, 3), (36, .if_icmp .ge 28, 3), (39, .aload_n 0, 1), (40, .getfield 71, 3), (43, .iload 4, 2), (45, .invokevirtual 252, 3), (48, .invokestatic 255, 3), (51, .iload_n 1, 1), (52, .if_icmp .ne 6, 3), (55, .iinc 3 1, 3), (58, .iinc 4 1, 3), (61, .goto (-30), 3), (64, .iload_n 3, 1), (65, .ireturn, 1)]
set_option maxRecDepth 20000 in
theorem daX11_loudest : ∀ x ∈ tbX11_loudest, decode cX11_loudest x.1 = .ok x.2 := by decide +kernel
theorem dkX11_loudest {i pc n : Nat} {ins : Instr} (h : tbX11_loudest[i]? = some (pc, ins, n)) : decode cX11_loudest pc = .ok (ins, n) := daX11_loudest (pc, ins, n) (List.mem_of_getElem? h)
def fX11_loudest (S0 : qv_St) (x1 : Int32) (x2 : Int32) : Option (qv_St × Int32) :=
  (fX11_isNoise S0 x1).bind fun r_1 =>
  if r_1 = 0 then
    some (S0, (-1))
  else
    (fX11_isPlace S0 x2).bind fun r_2 =>
    if r_2 = 0 then
      some (S0, (-1))
    else
      (fX7_face S0 x2).bind fun S_1 =>
      qv_lp3 qv_N (fun self_1 (S_2 : qv_St) (x3_1 : Int32) (x4_1 : Int32) =>
        if 300 ≤ x4_1 then
          some (S_2, x3_1)
        else
          qv_cm (fX7_soundAt S_2 x4_1) fun S_3 r_3 =>
          (fX7_leaderOf r_3).bind fun r_4 =>
          qv_j (fun (x3_2 : Int32) =>
            self_1 S_3 x3_2 (x4_1 + 1)) fun K_1 =>
          if r_4 = x1 then
            K_1 (x3_1 + 1)
          else
            K_1 x3_1) S_1 0 0
set_option maxRecDepth 20000 in
set_option maxHeartbeats 4000000 in
theorem wX11_loudest (G : qv_GT) (S0 : qv_St) (x1 : Int32) (x2 : Int32) : ∀ r, fX11_loudest S0 x1 x2 = some r → Cn G Lk yX11_loudest cX11_loudest 5 (some .int) 5 [.ref (G.2.2.1 0), .int x1, .int x2] S0 (qe_m r) := by
  refine cn_of (own := RX11) (emb := qe_m) (lv := [(0, .ref (G.2.2.1 0)), (1, .int x1), (2, .int x2)]) rfl rfl (Nat.le_of_ble_eq_true rfl) rfl (fun X => ?_)
  unfold fX11_loudest
  refine qr_aload_n (n := 1) 0 (dkX11_loudest (i := 0) rfl) rfl rfl ?_
  refine qr_iload_n (n := 2) 1 (dkX11_loudest (i := 1) rfl) rfl rfl ?_
  refine qr_cvi (n := 5) 0 [.int x1] (dkX11_loudest (i := 2) rfl) rfl kvX11_120 rfl rfl (Nat.le_of_ble_eq_true rfl) rfl rfl lkO_0 rfl (wX11_isNoise G S0 x1) (fun r_1 => ?_)
  refine qr_if_eq (t := 16) (n := 8) (dkX11_loudest (i := 3) rfl) (by decide) rfl ?_ ?_
  · refine qr_iconst (n := 17) (-1) (dkX11_loudest (i := 8) rfl) rfl (by decide) ?_
    exact qr_iret (dkX11_loudest (i := 9) rfl) rfl rfl
  · refine qr_aload_n (n := 9) 0 (dkX11_loudest (i := 4) rfl) rfl rfl ?_
    refine qr_iload_n (n := 10) 2 (dkX11_loudest (i := 5) rfl) rfl rfl ?_
    refine qr_cvi (n := 13) 0 [.int x2] (dkX11_loudest (i := 6) rfl) rfl kvX11_173 rfl rfl (Nat.le_of_ble_eq_true rfl) rfl rfl lkO_0 rfl (wX11_isPlace G S0 x2) (fun r_2 => ?_)
    refine qr_if_ne (t := 18) (n := 16) (dkX11_loudest (i := 7) rfl) (by decide) rfl ?_ ?_
    · refine qr_aload_n (n := 19) 0 (dkX11_loudest (i := 10) rfl) rfl rfl ?_
      refine qr_geta (n := 22) 0 9 260 (dkX11_loudest (i := 11) rfl) rfl lkO_0 rfl gnX11 (Nat.le_of_ble_eq_true rfl) kfX11_71 rfl ?_
      refine qr_iload_n (n := 23) 2 (dkX11_loudest (i := 12) rfl) rfl rfl ?_
      refine qr_cvu (n := 26) 260 [.int x2] (dkX11_loudest (i := 13) rfl) rfl kvX11_184 rfl rfl (Nat.le_of_ble_eq_true rfl) rfl rfl lkO_260 rfl (wX7_face G S0 x2) (fun S_1 => ?_)
      refine qr_iconst (n := 27) 0 (dkX11_loudest (i := 14) rfl) rfl (by decide) ?_
      refine qr_istore_n (n := 28) (lv2 := [(0, .ref (G.2.2.1 0)), (1, .int x1), (2, .int x2), (3, .int 0)]) [1, 2, 3, 0] (dkX11_loudest (i := 15) rfl) rfl rfl (by decide) rfl ?_
      refine qr_iconst (n := 29) 0 (dkX11_loudest (i := 16) rfl) rfl (by decide) ?_
      refine qr_istore (n := 31) (lv2 := [(0, .ref (G.2.2.1 0)), (1, .int x1), (2, .int x2), (3, .int 0), (4, .int 0)]) [1, 2, 3, 4, 0] (dkX11_loudest (i := 17) rfl) rfl (by decide) rfl ?_
      refine qr_sub [0, 1, 3, 4] rfl ?_
      refine qr_lp3 (fun (S_2 : qv_St) (x3_1 : Int32) (x4_1 : Int32) => [(0, .ref (G.2.2.1 0)), (1, .int x1), (3, .int x3_1), (4, .int x4_1)]) (fun (S_2 : qv_St) (x3_1 : Int32) (x4_1 : Int32) => S_2) (fun self_1 hself_1 S_2 x3_1 x4_1 => ?_) qv_N S_1 0 0
      refine qr_iload (n := 33) 3 (dkX11_loudest (i := 18) rfl) rfl rfl ?_
      refine qr_sipush (n := 36) 300 (dkX11_loudest (i := 19) rfl) rfl (by decide) ?_
      refine qr_icmp_ge (t := 64) (n := 39) (dkX11_loudest (i := 20) rfl) (by decide) rfl ?_ ?_
      · refine qr_iload_n (n := 65) 2 (dkX11_loudest (i := 31) rfl) rfl rfl ?_
        exact qr_iret (dkX11_loudest (i := 32) rfl) rfl rfl
      · refine qr_aload_n (n := 40) 0 (dkX11_loudest (i := 21) rfl) rfl rfl ?_
        refine qr_geta (n := 43) 0 9 260 (dkX11_loudest (i := 22) rfl) rfl lkO_0 rfl gnX11 (Nat.le_of_ble_eq_true rfl) kfX11_71 rfl ?_
        refine qr_iload (n := 45) 3 (dkX11_loudest (i := 23) rfl) rfl rfl ?_
        refine qr_cvm (n := 48) 260 [.int x4_1] (dkX11_loudest (i := 24) rfl) rfl kvX11_252 rfl rfl (Nat.le_of_ble_eq_true rfl) rfl rfl lkO_260 rfl (wX7_soundAt G S_2 x4_1) (fun S_3 r_3 => ?_)
        refine qr_csi (n := 51) [.int r_3] (dkX11_loudest (i := 25) rfl) rfl kvX11_255 rfl rfl (Nat.le_of_ble_eq_true rfl) rfl rfl (wX7_leaderOf G S_3 r_3) (fun r_4 => ?_)
        refine qr_iload_n (n := 52) 1 (dkX11_loudest (i := 26) rfl) rfl rfl ?_
        refine qr_j (fun K_1 : Int32 → Option (qv_St × Int32) => ∀ (x3_2 : Int32), VV G Lk X RX11 cX11_loudest 5 (some .int) 5 qe_m 58 [(0, .ref (G.2.2.1 0)), (1, .int x1), (3, .int x3_2), (4, .int x4_1)] [] S_3 (K_1 x3_2)) (fun x3_2 => ?_) (fun K_1 hK_1 => ?_)
        · refine qr_iinc (n := 61) (v := 1) (lv2 := [(0, .ref (G.2.2.1 0)), (1, .int x1), (3, .int x3_2), (4, .int (x4_1 + 1))]) 3 [1, 2, 3, 0] (dkX11_loudest (i := 29) rfl) rfl rfl (by decide) (by decide) rfl ?_
          refine qr_goto (n := 31) (dkX11_loudest (i := 30) rfl) (by decide) ?_
          exact hself_1 S_3 x3_2 (x4_1 + 1)
        · refine qr_icmp_ne (t := 58) (n := 55) (dkX11_loudest (i := 27) rfl) (by decide) rfl ?_ ?_
          · exact hK_1 x3_1
          · refine qr_iinc (n := 58) (v := 1) (lv2 := [(0, .ref (G.2.2.1 0)), (1, .int x1), (3, .int (x3_1 + 1)), (4, .int x4_1)]) 2 [1, 2, 0, 3] (dkX11_loudest (i := 28) rfl) rfl rfl (by decide) (by decide) rfl ?_
            exact hK_1 (x3_1 + 1)
    · refine qr_iconst (n := 17) (-1) (dkX11_loudest (i := 8) rfl) rfl (by decide) ?_
      exact qr_iret (dkX11_loudest (i := 9) rfl) rfl rfl
def tbX11_peak : List (Nat × Instr × Nat) := [(0, .aload_n 0, 1), (1, .iload_n 1, 1), (2, .invokevirtual 173, 3), (5, .ifCond .eq 12, 3), (8, .iload_n 2, 1), (9, .iconst 0, 1), (10, .iconst 1, 1), (11, .invokestatic 176, 3), (14, .ifCond .ne 5, 3), (17, .iconst (-1), 1), (18, .ireturn, 1), (19, .aload_n 0, 1), (20, .getfield 71, 3), (23, .iload_n 1, 1), (24, .invokevirtual 184, 3), (27, .aload_n 0, 1), (28, .getfield 71, 3), (31, .iconst 0, 1), (32, .sipush 300, 3), (35, .bipush 99, 2), (37, .invokevirtual 246, 3), (40, .istore_n 3, 1), (41, .iconst 0, 1), (42, .istore 4, 2), (44, .iload 4, 2), (46, .sipush 300, 3), (49, .if_icmp .ge 22, 3), (52, .aload_n 0, 1), (53, .getfield 71, 3), (56, .iload 4, 2), (58, .invokevirtual 187, 3), (61, .iload_n 3, 1), (62, .if_icmp .ge 9, 3), (65, .iinc 4 1, 3), (68, .goto (-24), 3), (71, .iload_n 2, 1), (72, .ifCond .ne 7, 3), (75, .iload_n 3, 1), (76, .goto 5, 3), (79, .iload 4, 2), (81, .ireturn, 1)]
set_option maxRecDepth 20000 in
theorem daX11_peak : ∀ x ∈ tbX11_peak, decode cX11_peak x.1 = .ok x.2 := by decide +kernel
theorem dkX11_peak {i pc n : Nat} {ins : Instr} (h : tbX11_peak[i]? = some (pc, ins, n)) : decode cX11_peak pc = .ok (ins, n) := daX11_peak (pc, ins, n) (List.mem_of_getElem? h)
def fX11_peak (S0 : qv_St) (x1 : Int32) (x2 : Int32) : Option (qv_St × Int32) :=
  (fX11_isPlace S0 x1).bind fun r_1 =>
  if r_1 = 0 then
    some (S0, (-1))
  else
    (fX11_within x2 0 1).bind fun r_2 =>
    if r_2 = 0 then
      some (S0, (-1))
    else
      (fX7_face S0 x1).bind fun S_1 =>
      qv_cm (fX7_greatest S_1 0 300 99) fun S_2 r_3 =>
      qv_j (fun (S_3 : qv_St) (x4_1 : Int32) =>
        if x2 = 0 then
          some (S_3, r_3)
        else
          some (S_3, x4_1)) fun K_1 =>
      qv_lp2 qv_N (fun self_1 (S_4 : qv_St) (x4_2 : Int32) =>
        if 300 ≤ x4_2 then
          K_1 S_4 x4_2
        else
          qv_cm (fX7_noiseAt S_4 x4_2) fun S_5 r_4 =>
          if r_3 ≤ r_4 then
            K_1 S_5 x4_2
          else
            self_1 S_5 (x4_2 + 1)) S_2 0
set_option maxRecDepth 20000 in
set_option maxHeartbeats 4000000 in
theorem wX11_peak (G : qv_GT) (S0 : qv_St) (x1 : Int32) (x2 : Int32) : ∀ r, fX11_peak S0 x1 x2 = some r → Cn G Lk yX11_peak cX11_peak 5 (some .int) 7 [.ref (G.2.2.1 0), .int x1, .int x2] S0 (qe_m r) := by
  refine cn_of (own := RX11) (emb := qe_m) (lv := [(0, .ref (G.2.2.1 0)), (1, .int x1), (2, .int x2)]) rfl rfl (Nat.le_of_ble_eq_true rfl) rfl (fun X => ?_)
  unfold fX11_peak
  refine qr_aload_n (n := 1) 0 (dkX11_peak (i := 0) rfl) rfl rfl ?_
  refine qr_iload_n (n := 2) 1 (dkX11_peak (i := 1) rfl) rfl rfl ?_
  refine qr_cvi (n := 5) 0 [.int x1] (dkX11_peak (i := 2) rfl) rfl kvX11_173 rfl rfl (Nat.le_of_ble_eq_true rfl) rfl rfl lkO_0 rfl (wX11_isPlace G S0 x1) (fun r_1 => ?_)
  refine qr_if_eq (t := 17) (n := 8) (dkX11_peak (i := 3) rfl) (by decide) rfl ?_ ?_
  · refine qr_iconst (n := 18) (-1) (dkX11_peak (i := 9) rfl) rfl (by decide) ?_
    exact qr_iret (dkX11_peak (i := 10) rfl) rfl rfl
  · refine qr_iload_n (n := 9) 2 (dkX11_peak (i := 4) rfl) rfl rfl ?_
    refine qr_iconst (n := 10) 0 (dkX11_peak (i := 5) rfl) rfl (by decide) ?_
    refine qr_iconst (n := 11) 1 (dkX11_peak (i := 6) rfl) rfl (by decide) ?_
    refine qr_csi (n := 14) [.int x2, .int 0, .int 1] (dkX11_peak (i := 7) rfl) rfl kvX11_176 rfl rfl (Nat.le_of_ble_eq_true rfl) rfl rfl (wX11_within G S0 x2 0 1) (fun r_2 => ?_)
    refine qr_if_ne (t := 19) (n := 17) (dkX11_peak (i := 8) rfl) (by decide) rfl ?_ ?_
    · refine qr_aload_n (n := 20) 0 (dkX11_peak (i := 11) rfl) rfl rfl ?_
      refine qr_geta (n := 23) 0 9 260 (dkX11_peak (i := 12) rfl) rfl lkO_0 rfl gnX11 (Nat.le_of_ble_eq_true rfl) kfX11_71 rfl ?_
      refine qr_iload_n (n := 24) 1 (dkX11_peak (i := 13) rfl) rfl rfl ?_
      refine qr_cvu (n := 27) 260 [.int x1] (dkX11_peak (i := 14) rfl) rfl kvX11_184 rfl rfl (Nat.le_of_ble_eq_true rfl) rfl rfl lkO_260 rfl (wX7_face G S0 x1) (fun S_1 => ?_)
      refine qr_aload_n (n := 28) 0 (dkX11_peak (i := 15) rfl) rfl rfl ?_
      refine qr_geta (n := 31) 0 9 260 (dkX11_peak (i := 16) rfl) rfl lkO_0 rfl gnX11 (Nat.le_of_ble_eq_true rfl) kfX11_71 rfl ?_
      refine qr_iconst (n := 32) 0 (dkX11_peak (i := 17) rfl) rfl (by decide) ?_
      refine qr_sipush (n := 35) 300 (dkX11_peak (i := 18) rfl) rfl (by decide) ?_
      refine qr_bipush (n := 37) 99 (dkX11_peak (i := 19) rfl) rfl (by decide) ?_
      refine qr_cvm (n := 40) 260 [.int 0, .int 300, .int 99] (dkX11_peak (i := 20) rfl) rfl kvX11_246 rfl rfl (Nat.le_of_ble_eq_true rfl) rfl rfl lkO_260 rfl (wX7_greatest G S_1 0 300 99) (fun S_2 r_3 => ?_)
      refine qr_istore_n (n := 41) (lv2 := [(0, .ref (G.2.2.1 0)), (1, .int x1), (2, .int x2), (3, .int r_3)]) [1, 2, 3, 0] (dkX11_peak (i := 21) rfl) rfl rfl (by decide) rfl ?_
      refine qr_iconst (n := 42) 0 (dkX11_peak (i := 22) rfl) rfl (by decide) ?_
      refine qr_istore (n := 44) (lv2 := [(0, .ref (G.2.2.1 0)), (1, .int x1), (2, .int x2), (3, .int r_3), (4, .int 0)]) [1, 2, 3, 4, 0] (dkX11_peak (i := 23) rfl) rfl (by decide) rfl ?_
      refine qr_sub [0, 2, 3, 4] rfl ?_
      refine qr_j (fun K_1 : qv_St → Int32 → Option (qv_St × Int32) => ∀ (S_3 : qv_St) (x4_1 : Int32), VV G Lk X RX11 cX11_peak 5 (some .int) 7 qe_m 71 [(2, .int x2), (3, .int r_3), (4, .int x4_1)] [] S_3 (K_1 S_3 x4_1)) (fun S_3 x4_1 => ?_) (fun K_1 hK_1 => ?_)
      · refine qr_iload_n (n := 72) 0 (dkX11_peak (i := 35) rfl) rfl rfl ?_
        refine qr_if_ne (t := 79) (n := 75) (dkX11_peak (i := 36) rfl) (by decide) rfl ?_ ?_
        · refine qr_iload (n := 81) 2 (dkX11_peak (i := 39) rfl) rfl rfl ?_
          exact qr_iret (dkX11_peak (i := 40) rfl) rfl rfl
        · refine qr_iload_n (n := 76) 1 (dkX11_peak (i := 37) rfl) rfl rfl ?_
          refine qr_goto (n := 81) (dkX11_peak (i := 38) rfl) (by decide) ?_
          exact qr_iret (dkX11_peak (i := 40) rfl) rfl rfl
      · refine qr_lp2 (fun (S_4 : qv_St) (x4_2 : Int32) => [(0, .ref (G.2.2.1 0)), (2, .int x2), (3, .int r_3), (4, .int x4_2)]) (fun (S_4 : qv_St) (x4_2 : Int32) => S_4) (fun self_1 hself_1 S_4 x4_2 => ?_) qv_N S_2 0
        refine qr_iload (n := 46) 3 (dkX11_peak (i := 24) rfl) rfl rfl ?_
        refine qr_sipush (n := 49) 300 (dkX11_peak (i := 25) rfl) rfl (by decide) ?_
        refine qr_icmp_ge (t := 71) (n := 52) (dkX11_peak (i := 26) rfl) (by decide) rfl ?_ ?_
        · refine qr_sub [1, 2, 3] rfl ?_
          exact hK_1 S_4 x4_2
        · refine qr_aload_n (n := 53) 0 (dkX11_peak (i := 27) rfl) rfl rfl ?_
          refine qr_geta (n := 56) 0 9 260 (dkX11_peak (i := 28) rfl) rfl lkO_0 rfl gnX11 (Nat.le_of_ble_eq_true rfl) kfX11_71 rfl ?_
          refine qr_iload (n := 58) 3 (dkX11_peak (i := 29) rfl) rfl rfl ?_
          refine qr_cvm (n := 61) 260 [.int x4_2] (dkX11_peak (i := 30) rfl) rfl kvX11_187 rfl rfl (Nat.le_of_ble_eq_true rfl) rfl rfl lkO_260 rfl (wX7_noiseAt G S_4 x4_2) (fun S_5 r_4 => ?_)
          refine qr_iload_n (n := 62) 2 (dkX11_peak (i := 31) rfl) rfl rfl ?_
          refine qr_icmp_ge (t := 71) (n := 65) (dkX11_peak (i := 32) rfl) (by decide) rfl ?_ ?_
          · refine qr_sub [1, 2, 3] rfl ?_
            exact hK_1 S_5 x4_2
          · refine qr_iinc (n := 68) (v := 1) (lv2 := [(0, .ref (G.2.2.1 0)), (2, .int x2), (3, .int r_3), (4, .int (x4_2 + 1))]) 3 [1, 2, 3, 0] (dkX11_peak (i := 33) rfl) rfl rfl (by decide) (by decide) rfl ?_
            refine qr_goto (n := 44) (dkX11_peak (i := 34) rfl) (by decide) ?_
            exact hself_1 S_5 (x4_2 + 1)
    · refine qr_iconst (n := 18) (-1) (dkX11_peak (i := 9) rfl) rfl (by decide) ?_
      exact qr_iret (dkX11_peak (i := 10) rfl) rfl rfl
def tbX11_calmest : List (Nat × Instr × Nat) := [(0, .iload_n 1, 1), (1, .iconst 1, 1), (2, .sipush 300, 3), (5, .invokestatic 176, 3), (8, .ifCond .ne 5, 3), (11, .iconst (-1), 1), (12, .ireturn, 1), (13, .bipush (-2), 2), (15, .istore_n 2, 1), (16, .bipush 100, 2), (18, .istore_n 3, 1), (19, .iconst 0, 1), (20, .istore 4, 2), (22, .iload 4, 2), (24, .aload_n 0, 1), (25, .getfield 35, 3), (28, .getfield 196, 3), (31, .if_icmp .ge 42, 3), (34, .aload_n 0, 1), (35, .getfield 71, 3), (38, .iload 4, 2), (40, .invokevirtual 184, 3), (43, .aload_n 0, 1), (44, .getfield 71, 3), (47, .iconst 0, 1), (48, .iload_n 1, 1), (49, .iload_n 3, 1), (50, .invokevirtual 246, 3), (53, .istore 5, 2), (55, .iload 5, 2), (57, .iload_n 3, 1), (58, .if_icmp .ge 9, 3), (61, .iload 5, 2), (63, .istore_n 3, 1), (64, .iload 4, 2), (66, .istore_n 2, 1), (67, .iinc 4 1, 3), (70, .goto (-48), 3), (73, .iload_n 2, 1), (74, .ireturn, 1)]
set_option maxRecDepth 20000 in
theorem daX11_calmest : ∀ x ∈ tbX11_calmest, decode cX11_calmest x.1 = .ok x.2 := by decide +kernel
theorem dkX11_calmest {i pc n : Nat} {ins : Instr} (h : tbX11_calmest[i]? = some (pc, ins, n)) : decode cX11_calmest pc = .ok (ins, n) := daX11_calmest (pc, ins, n) (List.mem_of_getElem? h)
def fX11_calmest (S0 : qv_St) (x1 : Int32) : Option (qv_St × Int32) :=
  (fX11_within x1 1 300).bind fun r_1 =>
  if r_1 = 0 then
    some (S0, (-1))
  else
    qv_lp4 qv_N (fun self_1 (S_1 : qv_St) (x2_1 : Int32) (x3_1 : Int32) (x4_1 : Int32) =>
      if (S_1.1 9 1) ≤ x4_1 then
        some (S_1, x2_1)
      else
        (fX7_face S_1 x4_1).bind fun S_2 =>
        qv_cm (fX7_greatest S_2 0 x1 x3_1) fun S_3 r_2 =>
        qv_j (fun (x2_2 : Int32) (x3_2 : Int32) =>
          self_1 S_3 x2_2 x3_2 (x4_1 + 1)) fun K_1 =>
        if x3_1 ≤ r_2 then
          K_1 x2_1 x3_1
        else
          K_1 x4_1 r_2) S0 (-2) 100 0
set_option maxRecDepth 20000 in
set_option maxHeartbeats 4000000 in
theorem wX11_calmest (G : qv_GT) (S0 : qv_St) (x1 : Int32) : ∀ r, fX11_calmest S0 x1 = some r → Cn G Lk yX11_calmest cX11_calmest 6 (some .int) 7 [.ref (G.2.2.1 0), .int x1] S0 (qe_m r) := by
  refine cn_of (own := RX11) (emb := qe_m) (lv := [(0, .ref (G.2.2.1 0)), (1, .int x1)]) rfl rfl (Nat.le_of_ble_eq_true rfl) rfl (fun X => ?_)
  unfold fX11_calmest
  refine qr_iload_n (n := 1) 1 (dkX11_calmest (i := 0) rfl) rfl rfl ?_
  refine qr_iconst (n := 2) 1 (dkX11_calmest (i := 1) rfl) rfl (by decide) ?_
  refine qr_sipush (n := 5) 300 (dkX11_calmest (i := 2) rfl) rfl (by decide) ?_
  refine qr_csi (n := 8) [.int x1, .int 1, .int 300] (dkX11_calmest (i := 3) rfl) rfl kvX11_176 rfl rfl (Nat.le_of_ble_eq_true rfl) rfl rfl (wX11_within G S0 x1 1 300) (fun r_1 => ?_)
  refine qr_if_ne (t := 13) (n := 11) (dkX11_calmest (i := 4) rfl) (by decide) rfl ?_ ?_
  · refine qr_bipush (n := 15) (-2) (dkX11_calmest (i := 7) rfl) rfl (by decide) ?_
    refine qr_istore_n (n := 16) (lv2 := [(0, .ref (G.2.2.1 0)), (1, .int x1), (2, .int (-2))]) [1, 2, 0] (dkX11_calmest (i := 8) rfl) rfl rfl (by decide) rfl ?_
    refine qr_bipush (n := 18) 100 (dkX11_calmest (i := 9) rfl) rfl (by decide) ?_
    refine qr_istore_n (n := 19) (lv2 := [(0, .ref (G.2.2.1 0)), (1, .int x1), (2, .int (-2)), (3, .int 100)]) [1, 2, 3, 0] (dkX11_calmest (i := 10) rfl) rfl rfl (by decide) rfl ?_
    refine qr_iconst (n := 20) 0 (dkX11_calmest (i := 11) rfl) rfl (by decide) ?_
    refine qr_istore (n := 22) (lv2 := [(0, .ref (G.2.2.1 0)), (1, .int x1), (2, .int (-2)), (3, .int 100), (4, .int 0)]) [1, 2, 3, 4, 0] (dkX11_calmest (i := 12) rfl) rfl (by decide) rfl ?_
    refine qr_lp4 (fun (S_1 : qv_St) (x2_1 : Int32) (x3_1 : Int32) (x4_1 : Int32) => [(0, .ref (G.2.2.1 0)), (1, .int x1), (2, .int x2_1), (3, .int x3_1), (4, .int x4_1)]) (fun (S_1 : qv_St) (x2_1 : Int32) (x3_1 : Int32) (x4_1 : Int32) => S_1) (fun self_1 hself_1 S_1 x2_1 x3_1 x4_1 => ?_) qv_N S0 (-2) 100 0
    refine qr_iload (n := 24) 4 (dkX11_calmest (i := 13) rfl) rfl rfl ?_
    refine qr_aload_n (n := 25) 0 (dkX11_calmest (i := 14) rfl) rfl rfl ?_
    refine qr_geta (n := 28) 0 3 9 (dkX11_calmest (i := 15) rfl) rfl lkO_0 rfl gnX11 (Nat.le_of_ble_eq_true rfl) kfX11_35 rfl ?_
    refine qr_geti (n := 31) 9 1 (dkX11_calmest (i := 16) rfl) rfl lkO_9 rfl gnX5 (Nat.le_of_ble_eq_true rfl) kfX11_196 rfl ?_
    refine qr_icmp_ge (t := 73) (n := 34) (dkX11_calmest (i := 17) rfl) (by decide) rfl ?_ ?_
    · refine qr_iload_n (n := 74) 2 (dkX11_calmest (i := 38) rfl) rfl rfl ?_
      exact qr_iret (dkX11_calmest (i := 39) rfl) rfl rfl
    · refine qr_aload_n (n := 35) 0 (dkX11_calmest (i := 18) rfl) rfl rfl ?_
      refine qr_geta (n := 38) 0 9 260 (dkX11_calmest (i := 19) rfl) rfl lkO_0 rfl gnX11 (Nat.le_of_ble_eq_true rfl) kfX11_71 rfl ?_
      refine qr_iload (n := 40) 4 (dkX11_calmest (i := 20) rfl) rfl rfl ?_
      refine qr_cvu (n := 43) 260 [.int x4_1] (dkX11_calmest (i := 21) rfl) rfl kvX11_184 rfl rfl (Nat.le_of_ble_eq_true rfl) rfl rfl lkO_260 rfl (wX7_face G S_1 x4_1) (fun S_2 => ?_)
      refine qr_aload_n (n := 44) 0 (dkX11_calmest (i := 22) rfl) rfl rfl ?_
      refine qr_geta (n := 47) 0 9 260 (dkX11_calmest (i := 23) rfl) rfl lkO_0 rfl gnX11 (Nat.le_of_ble_eq_true rfl) kfX11_71 rfl ?_
      refine qr_iconst (n := 48) 0 (dkX11_calmest (i := 24) rfl) rfl (by decide) ?_
      refine qr_iload_n (n := 49) 1 (dkX11_calmest (i := 25) rfl) rfl rfl ?_
      refine qr_iload_n (n := 50) 3 (dkX11_calmest (i := 26) rfl) rfl rfl ?_
      refine qr_cvm (n := 53) 260 [.int 0, .int x1, .int x3_1] (dkX11_calmest (i := 27) rfl) rfl kvX11_246 rfl rfl (Nat.le_of_ble_eq_true rfl) rfl rfl lkO_260 rfl (wX7_greatest G S_2 0 x1 x3_1) (fun S_3 r_2 => ?_)
      refine qr_istore (n := 55) (lv2 := [(0, .ref (G.2.2.1 0)), (1, .int x1), (2, .int x2_1), (3, .int x3_1), (4, .int x4_1), (5, .int r_2)]) [1, 2, 3, 4, 5, 0] (dkX11_calmest (i := 28) rfl) rfl (by decide) rfl ?_
      refine qr_iload (n := 57) 5 (dkX11_calmest (i := 29) rfl) rfl rfl ?_
      refine qr_iload_n (n := 58) 3 (dkX11_calmest (i := 30) rfl) rfl rfl ?_
      refine qr_j (fun K_1 : Int32 → Int32 → Option (qv_St × Int32) => ∀ (x2_2 : Int32) (x3_2 : Int32), VV G Lk X RX11 cX11_calmest 6 (some .int) 7 qe_m 67 [(0, .ref (G.2.2.1 0)), (1, .int x1), (2, .int x2_2), (3, .int x3_2), (4, .int x4_1)] [] S_3 (K_1 x2_2 x3_2)) (fun x2_2 x3_2 => ?_) (fun K_1 hK_1 => ?_)
      · refine qr_iinc (n := 70) (v := 1) (lv2 := [(0, .ref (G.2.2.1 0)), (1, .int x1), (2, .int x2_2), (3, .int x3_2), (4, .int (x4_1 + 1))]) 4 [1, 2, 3, 4, 0] (dkX11_calmest (i := 36) rfl) rfl rfl (by decide) (by decide) rfl ?_
        refine qr_goto (n := 22) (dkX11_calmest (i := 37) rfl) (by decide) ?_
        exact hself_1 S_3 x2_2 x3_2 (x4_1 + 1)
      · refine qr_icmp_ge (t := 67) (n := 61) (dkX11_calmest (i := 31) rfl) (by decide) rfl ?_ ?_
        · refine qr_sub [0, 1, 2, 3, 4] rfl ?_
          exact hK_1 x2_1 x3_1
        · refine qr_iload (n := 63) 5 (dkX11_calmest (i := 32) rfl) rfl rfl ?_
          refine qr_istore_n (n := 64) (lv2 := [(0, .ref (G.2.2.1 0)), (1, .int x1), (2, .int x2_1), (3, .int r_2), (4, .int x4_1), (5, .int r_2)]) [1, 2, 3, 0, 4, 5] (dkX11_calmest (i := 33) rfl) rfl rfl (by decide) rfl ?_
          refine qr_iload (n := 66) 4 (dkX11_calmest (i := 34) rfl) rfl rfl ?_
          refine qr_istore_n (n := 67) (lv2 := [(0, .ref (G.2.2.1 0)), (1, .int x1), (2, .int x4_1), (3, .int r_2), (4, .int x4_1), (5, .int r_2)]) [1, 2, 0, 3, 4, 5] (dkX11_calmest (i := 35) rfl) rfl rfl (by decide) rfl ?_
          refine qr_sub [0, 1, 2, 3, 4] rfl ?_
          exact hK_1 x4_1 r_2
  · refine qr_iconst (n := 12) (-1) (dkX11_calmest (i := 5) rfl) rfl (by decide) ?_
    exact qr_iret (dkX11_calmest (i := 6) rfl) rfl rfl
def tbX11_ours : List (Nat × Instr × Nat) := [(0, .aload_n 0, 1), (1, .iload_n 1, 1), (2, .invokevirtual 173, 3), (5, .ifCond .ne 5, 3), (8, .iconst (-1), 1), (9, .ireturn, 1), (10, .aload_n 0, 1), (11, .getfield 71, 3), (14, .iload_n 1, 1), (15, .invokevirtual 184, 3), (18, .iconst 0, 1), (19, .istore_n 2, 1), (20, .iconst 0, 1), (21, .istore_n 3, 1), (22, .iload_n 3, 1), (23, .sipush 300, 3), (26, .if_icmp .ge 35, 3), (29, .aload_n 0, 1), (30, .getfield 71, 3), (33, .iload_n 3, 1), (34, .invokevirtual 252, 3), (37, .istore 4, 2), (39, .iload 4, 2), (41, .invokestatic 258, 3), (44, .iload 4, 2), (46, .invokestatic 261, 3), (49, .if_icmp .le 6, 3), (52, .iinc 2 1, 3), (55, .iinc 3 1, 3), (58, .goto (-36), 3), (61, .iload_n 2, 1), (62, .ireturn, 1)]
set_option maxRecDepth 20000 in
theorem daX11_ours : ∀ x ∈ tbX11_ours, decode cX11_ours x.1 = .ok x.2 := by decide +kernel
theorem dkX11_ours {i pc n : Nat} {ins : Instr} (h : tbX11_ours[i]? = some (pc, ins, n)) : decode cX11_ours pc = .ok (ins, n) := daX11_ours (pc, ins, n) (List.mem_of_getElem? h)
def fX11_ours (S0 : qv_St) (x1 : Int32) : Option (qv_St × Int32) :=
  (fX11_isPlace S0 x1).bind fun r_1 =>
  if r_1 = 0 then
    some (S0, (-1))
  else
    (fX7_face S0 x1).bind fun S_1 =>
    qv_lp3 qv_N (fun self_1 (S_2 : qv_St) (x2_1 : Int32) (x3_1 : Int32) =>
      if 300 ≤ x3_1 then
        some (S_2, x2_1)
      else
        qv_cm (fX7_soundAt S_2 x3_1) fun S_3 r_2 =>
        (fX7_rustlingOf r_2).bind fun r_3 =>
        (fX7_topOf r_2).bind fun r_4 =>
        qv_j (fun (x2_2 : Int32) =>
          self_1 S_3 x2_2 (x3_1 + 1)) fun K_1 =>
        if r_3 ≤ r_4 then
          K_1 x2_1
        else
          K_1 (x2_1 + 1)) S_1 0 0
set_option maxRecDepth 20000 in
set_option maxHeartbeats 4000000 in
theorem wX11_ours (G : qv_GT) (S0 : qv_St) (x1 : Int32) : ∀ r, fX11_ours S0 x1 = some r → Cn G Lk yX11_ours cX11_ours 5 (some .int) 5 [.ref (G.2.2.1 0), .int x1] S0 (qe_m r) := by
  refine cn_of (own := RX11) (emb := qe_m) (lv := [(0, .ref (G.2.2.1 0)), (1, .int x1)]) rfl rfl (Nat.le_of_ble_eq_true rfl) rfl (fun X => ?_)
  unfold fX11_ours
  refine qr_aload_n (n := 1) 0 (dkX11_ours (i := 0) rfl) rfl rfl ?_
  refine qr_iload_n (n := 2) 1 (dkX11_ours (i := 1) rfl) rfl rfl ?_
  refine qr_cvi (n := 5) 0 [.int x1] (dkX11_ours (i := 2) rfl) rfl kvX11_173 rfl rfl (Nat.le_of_ble_eq_true rfl) rfl rfl lkO_0 rfl (wX11_isPlace G S0 x1) (fun r_1 => ?_)
  refine qr_if_ne (t := 10) (n := 8) (dkX11_ours (i := 3) rfl) (by decide) rfl ?_ ?_
  · refine qr_aload_n (n := 11) 0 (dkX11_ours (i := 6) rfl) rfl rfl ?_
    refine qr_geta (n := 14) 0 9 260 (dkX11_ours (i := 7) rfl) rfl lkO_0 rfl gnX11 (Nat.le_of_ble_eq_true rfl) kfX11_71 rfl ?_
    refine qr_iload_n (n := 15) 1 (dkX11_ours (i := 8) rfl) rfl rfl ?_
    refine qr_cvu (n := 18) 260 [.int x1] (dkX11_ours (i := 9) rfl) rfl kvX11_184 rfl rfl (Nat.le_of_ble_eq_true rfl) rfl rfl lkO_260 rfl (wX7_face G S0 x1) (fun S_1 => ?_)
    refine qr_iconst (n := 19) 0 (dkX11_ours (i := 10) rfl) rfl (by decide) ?_
    refine qr_istore_n (n := 20) (lv2 := [(0, .ref (G.2.2.1 0)), (1, .int x1), (2, .int 0)]) [1, 2, 0] (dkX11_ours (i := 11) rfl) rfl rfl (by decide) rfl ?_
    refine qr_iconst (n := 21) 0 (dkX11_ours (i := 12) rfl) rfl (by decide) ?_
    refine qr_istore_n (n := 22) (lv2 := [(0, .ref (G.2.2.1 0)), (1, .int x1), (2, .int 0), (3, .int 0)]) [1, 2, 3, 0] (dkX11_ours (i := 13) rfl) rfl rfl (by decide) rfl ?_
    refine qr_sub [0, 2, 3] rfl ?_
    refine qr_lp3 (fun (S_2 : qv_St) (x2_1 : Int32) (x3_1 : Int32) => [(0, .ref (G.2.2.1 0)), (2, .int x2_1), (3, .int x3_1)]) (fun (S_2 : qv_St) (x2_1 : Int32) (x3_1 : Int32) => S_2) (fun self_1 hself_1 S_2 x2_1 x3_1 => ?_) qv_N S_1 0 0
    refine qr_iload_n (n := 23) 2 (dkX11_ours (i := 14) rfl) rfl rfl ?_
    refine qr_sipush (n := 26) 300 (dkX11_ours (i := 15) rfl) rfl (by decide) ?_
    refine qr_icmp_ge (t := 61) (n := 29) (dkX11_ours (i := 16) rfl) (by decide) rfl ?_ ?_
    · refine qr_iload_n (n := 62) 1 (dkX11_ours (i := 30) rfl) rfl rfl ?_
      exact qr_iret (dkX11_ours (i := 31) rfl) rfl rfl
    · refine qr_aload_n (n := 30) 0 (dkX11_ours (i := 17) rfl) rfl rfl ?_
      refine qr_geta (n := 33) 0 9 260 (dkX11_ours (i := 18) rfl) rfl lkO_0 rfl gnX11 (Nat.le_of_ble_eq_true rfl) kfX11_71 rfl ?_
      refine qr_iload_n (n := 34) 2 (dkX11_ours (i := 19) rfl) rfl rfl ?_
      refine qr_cvm (n := 37) 260 [.int x3_1] (dkX11_ours (i := 20) rfl) rfl kvX11_252 rfl rfl (Nat.le_of_ble_eq_true rfl) rfl rfl lkO_260 rfl (wX7_soundAt G S_2 x3_1) (fun S_3 r_2 => ?_)
      refine qr_istore (n := 39) (lv2 := [(0, .ref (G.2.2.1 0)), (2, .int x2_1), (3, .int x3_1), (4, .int r_2)]) [1, 2, 3, 0] (dkX11_ours (i := 21) rfl) rfl (by decide) rfl ?_
      refine qr_iload (n := 41) 3 (dkX11_ours (i := 22) rfl) rfl rfl ?_
      refine qr_csi (n := 44) [.int r_2] (dkX11_ours (i := 23) rfl) rfl kvX11_258 rfl rfl (Nat.le_of_ble_eq_true rfl) rfl rfl (wX7_rustlingOf G S_3 r_2) (fun r_3 => ?_)
      refine qr_iload (n := 46) 3 (dkX11_ours (i := 24) rfl) rfl rfl ?_
      refine qr_csi (n := 49) [.int r_2] (dkX11_ours (i := 25) rfl) rfl kvX11_261 rfl rfl (Nat.le_of_ble_eq_true rfl) rfl rfl (wX7_topOf G S_3 r_2) (fun r_4 => ?_)
      refine qr_j (fun K_1 : Int32 → Option (qv_St × Int32) => ∀ (x2_2 : Int32), VV G Lk X RX11 cX11_ours 5 (some .int) 5 qe_m 55 [(0, .ref (G.2.2.1 0)), (2, .int x2_2), (3, .int x3_1)] [] S_3 (K_1 x2_2)) (fun x2_2 => ?_) (fun K_1 hK_1 => ?_)
      · refine qr_iinc (n := 58) (v := 1) (lv2 := [(0, .ref (G.2.2.1 0)), (2, .int x2_2), (3, .int (x3_1 + 1))]) 2 [1, 2, 0] (dkX11_ours (i := 28) rfl) rfl rfl (by decide) (by decide) rfl ?_
        refine qr_goto (n := 22) (dkX11_ours (i := 29) rfl) (by decide) ?_
        exact hself_1 S_3 x2_2 (x3_1 + 1)
      · refine qr_icmp_le (t := 55) (n := 52) (dkX11_ours (i := 26) rfl) (by decide) rfl ?_ ?_
        · refine qr_sub [0, 1, 2] rfl ?_
          exact hK_1 x2_1
        · refine qr_iinc (n := 55) (v := 1) (lv2 := [(0, .ref (G.2.2.1 0)), (2, .int (x2_1 + 1)), (3, .int x3_1), (4, .int r_2)]) 1 [1, 0, 2, 3] (dkX11_ours (i := 27) rfl) rfl rfl (by decide) (by decide) rfl ?_
          refine qr_sub [0, 1, 2] rfl ?_
          exact hK_1 (x2_1 + 1)
  · refine qr_iconst (n := 9) (-1) (dkX11_ours (i := 4) rfl) rfl (by decide) ?_
    exact qr_iret (dkX11_ours (i := 5) rfl) rfl rfl
def tbX11_best : List (Nat × Instr × Nat) := [(0, .aload_n 0, 1), (1, .iload_n 1, 1), (2, .invokevirtual 151, 3), (5, .ifCond .eq 12, 3), (8, .iload_n 2, 1), (9, .iconst 0, 1), (10, .iconst 1, 1), (11, .invokestatic 176, 3), (14, .ifCond .ne 5, 3), (17, .iconst (-1), 1), (18, .ireturn, 1), (19, .bipush (-2), 2), (21, .istore_n 3, 1), (22, .sipush 301, 3), (25, .istore 4, 2), (27, .iconst 0, 1), (28, .istore 5, 2), (30, .iload 5, 2), (32, .aload_n 0, 1), (33, .getfield 35, 3), (36, .getfield 196, 3), (39, .if_icmp .ge 71, 3), (42, .aload_n 0, 1), (43, .getfield 71, 3), (46, .iload 5, 2), (48, .invokevirtual 184, 3), (51, .iload 5, 2), (53, .aload_n 0, 1), (54, .getfield 42, 3), (57, .getfield 199, 3), (60, .if_icmp .ne 7, 3), (63, .iconst 0, 1), (64, .goto 10, 3), (67, .aload_n 0, 1), (68, .getfield 35, 3), (71, .getfield 222, 3), (74, .istore 6, 2), (76, .aload_n 0, 1), (77, .getfield 71, 3), (80, .iload_n 1, 1), (81, .iload 6, 2), (83, .iload 4, 2), (85, .iconst 1, 1), (86, .isub, 1), (87, .invokevirtual 264, 3), (90, .istore 7, 2), (92, .iload 7, 2), (94, .ifCond .lt 10, 3), (97, .iload 5, 2), (99, .istore_n 3, 1), (100, .iload 7, 2), (102, .istore 4, 2), (104, .iinc 5 1, 3), (107, .goto (-77), 3), (110, .iload_n 3, 1), (111, .ifCond .ge 6, 3), (114, .bipush (-2), 2), (116, .ireturn, 1), (117, .iload_n 2, 1), (118, .ifCond .ne 7, 3), (121, .iload_n 3, 1), (122, .goto 5, 3), (125, .iload 4, 2), (127, .ireturn, 1)]
set_option maxRecDepth 20000 in
theorem daX11_best : ∀ x ∈ tbX11_best, decode cX11_best x.1 = .ok x.2 := by decide +kernel
theorem dkX11_best {i pc n : Nat} {ins : Instr} (h : tbX11_best[i]? = some (pc, ins, n)) : decode cX11_best pc = .ok (ins, n) := daX11_best (pc, ins, n) (List.mem_of_getElem? h)
def fX11_best (S0 : qv_St) (x1 : Int32) (x2 : Int32) : Option (qv_St × Int32) :=
  (fX11_isShot S0 x1).bind fun r_1 =>
  if r_1 = 0 then
    some (S0, (-1))
  else
    (fX11_within x2 0 1).bind fun r_2 =>
    if r_2 = 0 then
      some (S0, (-1))
    else
      qv_j (fun (S_1 : qv_St) (x3_1 : Int32) (x4_1 : Int32) =>
        if 0 ≤ x3_1 then
          if x2 = 0 then
            some (S_1, x3_1)
          else
            some (S_1, x4_1)
        else
          some (S_1, (-2))) fun K_1 =>
      qv_lp4 qv_N (fun self_1 (S_2 : qv_St) (x3_2 : Int32) (x4_2 : Int32) (x5_1 : Int32) =>
        if (S_2.1 9 1) ≤ x5_1 then
          K_1 S_2 x3_2 x4_2
        else
          (fX7_face S_2 x5_1).bind fun S_3 =>
          qv_j (fun (t_1 : Int32) =>
            qv_cm (fX7_firstGood S_3 x1 t_1 (x4_2 - 1)) fun S_4 r_3 =>
            qv_j (fun (x3_3 : Int32) (x4_3 : Int32) =>
              self_1 S_4 x3_3 x4_3 (x5_1 + 1)) fun K_3 =>
            if r_3 < 0 then
              K_3 x3_2 x4_2
            else
              K_3 x5_1 r_3) fun K_2 =>
          if x5_1 = (S_3.1 31 1) then
            K_2 0
          else
            K_2 (S_3.1 9 15)) S0 (-2) 301 0
set_option maxRecDepth 20000 in
set_option maxHeartbeats 4000000 in
theorem wX11_best (G : qv_GT) (S0 : qv_St) (x1 : Int32) (x2 : Int32) : ∀ r, fX11_best S0 x1 x2 = some r → Cn G Lk yX11_best cX11_best 8 (some .int) 7 [.ref (G.2.2.1 0), .int x1, .int x2] S0 (qe_m r) := by
  refine cn_of (own := RX11) (emb := qe_m) (lv := [(0, .ref (G.2.2.1 0)), (1, .int x1), (2, .int x2)]) rfl rfl (Nat.le_of_ble_eq_true rfl) rfl (fun X => ?_)
  unfold fX11_best
  refine qr_aload_n (n := 1) 0 (dkX11_best (i := 0) rfl) rfl rfl ?_
  refine qr_iload_n (n := 2) 1 (dkX11_best (i := 1) rfl) rfl rfl ?_
  refine qr_cvi (n := 5) 0 [.int x1] (dkX11_best (i := 2) rfl) rfl kvX11_151 rfl rfl (Nat.le_of_ble_eq_true rfl) rfl rfl lkO_0 rfl (wX11_isShot G S0 x1) (fun r_1 => ?_)
  refine qr_if_eq (t := 17) (n := 8) (dkX11_best (i := 3) rfl) (by decide) rfl ?_ ?_
  · refine qr_iconst (n := 18) (-1) (dkX11_best (i := 9) rfl) rfl (by decide) ?_
    exact qr_iret (dkX11_best (i := 10) rfl) rfl rfl
  · refine qr_iload_n (n := 9) 2 (dkX11_best (i := 4) rfl) rfl rfl ?_
    refine qr_iconst (n := 10) 0 (dkX11_best (i := 5) rfl) rfl (by decide) ?_
    refine qr_iconst (n := 11) 1 (dkX11_best (i := 6) rfl) rfl (by decide) ?_
    refine qr_csi (n := 14) [.int x2, .int 0, .int 1] (dkX11_best (i := 7) rfl) rfl kvX11_176 rfl rfl (Nat.le_of_ble_eq_true rfl) rfl rfl (wX11_within G S0 x2 0 1) (fun r_2 => ?_)
    refine qr_if_ne (t := 19) (n := 17) (dkX11_best (i := 8) rfl) (by decide) rfl ?_ ?_
    · refine qr_bipush (n := 21) (-2) (dkX11_best (i := 11) rfl) rfl (by decide) ?_
      refine qr_istore_n (n := 22) (lv2 := [(0, .ref (G.2.2.1 0)), (1, .int x1), (2, .int x2), (3, .int (-2))]) [1, 2, 3, 0] (dkX11_best (i := 12) rfl) rfl rfl (by decide) rfl ?_
      refine qr_sipush (n := 25) 301 (dkX11_best (i := 13) rfl) rfl (by decide) ?_
      refine qr_istore (n := 27) (lv2 := [(0, .ref (G.2.2.1 0)), (1, .int x1), (2, .int x2), (3, .int (-2)), (4, .int 301)]) [1, 2, 3, 4, 0] (dkX11_best (i := 14) rfl) rfl (by decide) rfl ?_
      refine qr_iconst (n := 28) 0 (dkX11_best (i := 15) rfl) rfl (by decide) ?_
      refine qr_istore (n := 30) (lv2 := [(0, .ref (G.2.2.1 0)), (1, .int x1), (2, .int x2), (3, .int (-2)), (4, .int 301), (5, .int 0)]) [1, 2, 3, 4, 5, 0] (dkX11_best (i := 16) rfl) rfl (by decide) rfl ?_
      refine qr_j (fun K_1 : qv_St → Int32 → Int32 → Option (qv_St × Int32) => ∀ (S_1 : qv_St) (x3_1 : Int32) (x4_1 : Int32), VV G Lk X RX11 cX11_best 8 (some .int) 7 qe_m 110 [(2, .int x2), (3, .int x3_1), (4, .int x4_1)] [] S_1 (K_1 S_1 x3_1 x4_1)) (fun S_1 x3_1 x4_1 => ?_) (fun K_1 hK_1 => ?_)
      · refine qr_iload_n (n := 111) 1 (dkX11_best (i := 54) rfl) rfl rfl ?_
        refine qr_if_ge (t := 117) (n := 114) (dkX11_best (i := 55) rfl) (by decide) rfl ?_ ?_
        · refine qr_iload_n (n := 118) 0 (dkX11_best (i := 58) rfl) rfl rfl ?_
          refine qr_if_ne (t := 125) (n := 121) (dkX11_best (i := 59) rfl) (by decide) rfl ?_ ?_
          · refine qr_iload (n := 127) 2 (dkX11_best (i := 62) rfl) rfl rfl ?_
            exact qr_iret (dkX11_best (i := 63) rfl) rfl rfl
          · refine qr_iload_n (n := 122) 1 (dkX11_best (i := 60) rfl) rfl rfl ?_
            refine qr_goto (n := 127) (dkX11_best (i := 61) rfl) (by decide) ?_
            exact qr_iret (dkX11_best (i := 63) rfl) rfl rfl
        · refine qr_bipush (n := 116) (-2) (dkX11_best (i := 56) rfl) rfl (by decide) ?_
          exact qr_iret (dkX11_best (i := 57) rfl) rfl rfl
      · refine qr_lp4 (fun (S_2 : qv_St) (x3_2 : Int32) (x4_2 : Int32) (x5_1 : Int32) => [(0, .ref (G.2.2.1 0)), (1, .int x1), (2, .int x2), (3, .int x3_2), (4, .int x4_2), (5, .int x5_1)]) (fun (S_2 : qv_St) (x3_2 : Int32) (x4_2 : Int32) (x5_1 : Int32) => S_2) (fun self_1 hself_1 S_2 x3_2 x4_2 x5_1 => ?_) qv_N S0 (-2) 301 0
        refine qr_iload (n := 32) 5 (dkX11_best (i := 17) rfl) rfl rfl ?_
        refine qr_aload_n (n := 33) 0 (dkX11_best (i := 18) rfl) rfl rfl ?_
        refine qr_geta (n := 36) 0 3 9 (dkX11_best (i := 19) rfl) rfl lkO_0 rfl gnX11 (Nat.le_of_ble_eq_true rfl) kfX11_35 rfl ?_
        refine qr_geti (n := 39) 9 1 (dkX11_best (i := 20) rfl) rfl lkO_9 rfl gnX5 (Nat.le_of_ble_eq_true rfl) kfX11_196 rfl ?_
        refine qr_icmp_ge (t := 110) (n := 42) (dkX11_best (i := 21) rfl) (by decide) rfl ?_ ?_
        · refine qr_sub [2, 3, 4] rfl ?_
          exact hK_1 S_2 x3_2 x4_2
        · refine qr_aload_n (n := 43) 0 (dkX11_best (i := 22) rfl) rfl rfl ?_
          refine qr_geta (n := 46) 0 9 260 (dkX11_best (i := 23) rfl) rfl lkO_0 rfl gnX11 (Nat.le_of_ble_eq_true rfl) kfX11_71 rfl ?_
          refine qr_iload (n := 48) 5 (dkX11_best (i := 24) rfl) rfl rfl ?_
          refine qr_cvu (n := 51) 260 [.int x5_1] (dkX11_best (i := 25) rfl) rfl kvX11_184 rfl rfl (Nat.le_of_ble_eq_true rfl) rfl rfl lkO_260 rfl (wX7_face G S_2 x5_1) (fun S_3 => ?_)
          refine qr_iload (n := 53) 5 (dkX11_best (i := 26) rfl) rfl rfl ?_
          refine qr_aload_n (n := 54) 0 (dkX11_best (i := 27) rfl) rfl rfl ?_
          refine qr_geta (n := 57) 0 4 31 (dkX11_best (i := 28) rfl) rfl lkO_0 rfl gnX11 (Nat.le_of_ble_eq_true rfl) kfX11_42 rfl ?_
          refine qr_geti (n := 60) 31 1 (dkX11_best (i := 29) rfl) rfl lkO_31 rfl gnX6 (Nat.le_of_ble_eq_true rfl) kfX11_199 rfl ?_
          refine qr_j (fun K_2 : Int32 → Option (qv_St × Int32) => ∀ (t_1 : Int32), VV G Lk X RX11 cX11_best 8 (some .int) 7 qe_m 74 [(0, .ref (G.2.2.1 0)), (1, .int x1), (2, .int x2), (3, .int x3_2), (4, .int x4_2), (5, .int x5_1)] [.int t_1] S_3 (K_2 t_1)) (fun t_1 => ?_) (fun K_2 hK_2 => ?_)
          · refine qr_istore (n := 76) (lv2 := [(0, .ref (G.2.2.1 0)), (1, .int x1), (2, .int x2), (3, .int x3_2), (4, .int x4_2), (5, .int x5_1), (6, .int t_1)]) [1, 2, 3, 4, 5, 6, 0] (dkX11_best (i := 36) rfl) rfl (by decide) rfl ?_
            refine qr_aload_n (n := 77) 0 (dkX11_best (i := 37) rfl) rfl rfl ?_
            refine qr_geta (n := 80) 0 9 260 (dkX11_best (i := 38) rfl) rfl lkO_0 rfl gnX11 (Nat.le_of_ble_eq_true rfl) kfX11_71 rfl ?_
            refine qr_iload_n (n := 81) 1 (dkX11_best (i := 39) rfl) rfl rfl ?_
            refine qr_iload (n := 83) 6 (dkX11_best (i := 40) rfl) rfl rfl ?_
            refine qr_iload (n := 85) 4 (dkX11_best (i := 41) rfl) rfl rfl ?_
            refine qr_iconst (n := 86) 1 (dkX11_best (i := 42) rfl) rfl (by decide) ?_
            refine qr_isub (n := 87) (dkX11_best (i := 43) rfl) rfl ?_
            refine qr_cvm (n := 90) 260 [.int x1, .int t_1, .int (x4_2 - 1)] (dkX11_best (i := 44) rfl) rfl kvX11_264 rfl rfl (Nat.le_of_ble_eq_true rfl) rfl rfl lkO_260 rfl (wX7_firstGood G S_3 x1 t_1 (x4_2 - 1)) (fun S_4 r_3 => ?_)
            refine qr_istore (n := 92) (lv2 := [(0, .ref (G.2.2.1 0)), (1, .int x1), (2, .int x2), (3, .int x3_2), (4, .int x4_2), (5, .int x5_1), (6, .int t_1), (7, .int r_3)]) [1, 2, 3, 4, 5, 6, 7, 0] (dkX11_best (i := 45) rfl) rfl (by decide) rfl ?_
            refine qr_iload (n := 94) 7 (dkX11_best (i := 46) rfl) rfl rfl ?_
            refine qr_j (fun K_3 : Int32 → Int32 → Option (qv_St × Int32) => ∀ (x3_3 : Int32) (x4_3 : Int32), VV G Lk X RX11 cX11_best 8 (some .int) 7 qe_m 104 [(0, .ref (G.2.2.1 0)), (1, .int x1), (2, .int x2), (3, .int x3_3), (4, .int x4_3), (5, .int x5_1)] [] S_4 (K_3 x3_3 x4_3)) (fun x3_3 x4_3 => ?_) (fun K_3 hK_3 => ?_)
            · refine qr_iinc (n := 107) (v := 1) (lv2 := [(0, .ref (G.2.2.1 0)), (1, .int x1), (2, .int x2), (3, .int x3_3), (4, .int x4_3), (5, .int (x5_1 + 1))]) 5 [1, 2, 3, 4, 5, 0] (dkX11_best (i := 52) rfl) rfl rfl (by decide) (by decide) rfl ?_
              refine qr_goto (n := 30) (dkX11_best (i := 53) rfl) (by decide) ?_
              exact hself_1 S_4 x3_3 x4_3 (x5_1 + 1)
            · refine qr_if_lt (t := 104) (n := 97) (dkX11_best (i := 47) rfl) (by decide) rfl ?_ ?_
              · refine qr_sub [0, 1, 2, 3, 4, 5] rfl ?_
                exact hK_3 x3_2 x4_2
              · refine qr_iload (n := 99) 5 (dkX11_best (i := 48) rfl) rfl rfl ?_
                refine qr_istore_n (n := 100) (lv2 := [(0, .ref (G.2.2.1 0)), (1, .int x1), (2, .int x2), (3, .int x5_1), (4, .int x4_2), (5, .int x5_1), (6, .int t_1), (7, .int r_3)]) [1, 2, 3, 0, 4, 5, 6, 7] (dkX11_best (i := 49) rfl) rfl rfl (by decide) rfl ?_
                refine qr_iload (n := 102) 7 (dkX11_best (i := 50) rfl) rfl rfl ?_
                refine qr_istore (n := 104) (lv2 := [(0, .ref (G.2.2.1 0)), (1, .int x1), (2, .int x2), (3, .int x5_1), (4, .int r_3), (5, .int x5_1), (6, .int t_1), (7, .int r_3)]) [1, 2, 3, 4, 0, 5, 6, 7] (dkX11_best (i := 51) rfl) rfl (by decide) rfl ?_
                refine qr_sub [0, 1, 2, 3, 4, 5] rfl ?_
                exact hK_3 x5_1 r_3
          · refine qr_icmp_ne (t := 67) (n := 63) (dkX11_best (i := 30) rfl) (by decide) rfl ?_ ?_
            · refine qr_aload_n (n := 68) 0 (dkX11_best (i := 33) rfl) rfl rfl ?_
              refine qr_geta (n := 71) 0 3 9 (dkX11_best (i := 34) rfl) rfl lkO_0 rfl gnX11 (Nat.le_of_ble_eq_true rfl) kfX11_35 rfl ?_
              refine qr_geti (n := 74) 9 15 (dkX11_best (i := 35) rfl) rfl lkO_9 rfl gnX5 (Nat.le_of_ble_eq_true rfl) kfX11_222 rfl ?_
              exact hK_2 (S_3.1 9 15)
            · refine qr_iconst (n := 64) 0 (dkX11_best (i := 31) rfl) rfl (by decide) ?_
              refine qr_goto (n := 74) (dkX11_best (i := 32) rfl) (by decide) ?_
              exact hK_2 0
    · refine qr_iconst (n := 18) (-1) (dkX11_best (i := 9) rfl) rfl (by decide) ?_
      exact qr_iret (dkX11_best (i := 10) rfl) rfl rfl
def tbX11_order : List (Nat × Instr × Nat) := [(0, .aload_n 0, 1), (1, .getfield 80, 3), (4, .invokevirtual 267, 3), (7, .iload_n 1, 1), (8, .iconst (-1), 1), (9, .if_icmp .lt 14, 3), (12, .iload_n 1, 1), (13, .aload_n 0, 1), (14, .getfield 80, 3), (17, .getfield 270, 3), (20, .if_icmp .lt 5, 3), (23, .iconst (-1), 1), (24, .ireturn, 1), (25, .aload_n 0, 1), (26, .getfield 35, 3), (29, .getfield 196, 3), (32, .ifCond .ne 6, 3), (35, .bipush (-2), 2), (37, .ireturn, 1), (38, .aload_n 0, 1), (39, .getfield 71, 3), (42, .aload_n 0, 1), (43, .getfield 42, 3), (46, .getfield 199, 3), (49, .invokevirtual 184, 3), (52, .aload_n 0, 1), (53, .getfield 80, 3), (56, .iconst 0, 1), (57, .iconst 0, 1), (58, .iconst 0, 1), (59, .invokevirtual 271, 3), (62, .aload_n 0, 1), (63, .getfield 80, 3), (66, .getfield 274, 3), (69, .aload_n 0, 1), (70, .getfield 80, 3), (73, .invokevirtual 277, 3), (76, .iaload, 1), (77, .ldc_w 281, 3), (80, .if_icmp .ne 6, 3), (83, .bipush (-2), 2), (85, .ireturn, 1), (86, .iload_n 1, 1), (87, .iconst (-1), 1), (88, .if_icmp .ne 21, 3), (91, .aload_n 0, 1), (92, .getfield 80, 3), (95, .getfield 274, 3), (98, .aload_n 0, 1), (99, .getfield 80, 3), (102, .invokevirtual 277, 3), (105, .iaload, 1), (106, .goto 12, 3), (109, .aload_n 0, 1), (110, .getfield 80, 3), (113, .getfield 282, 3), (116, .iload_n 1, 1), (117, .iaload, 1), (118, .ireturn, 1)]
set_option maxRecDepth 20000 in
theorem daX11_order : ∀ x ∈ tbX11_order, decode cX11_order x.1 = .ok x.2 := by decide +kernel
theorem dkX11_order {i pc n : Nat} {ins : Instr} (h : tbX11_order[i]? = some (pc, ins, n)) : decode cX11_order pc = .ok (ins, n) := daX11_order (pc, ins, n) (List.mem_of_getElem? h)
def fX11_order (S0 : qv_St) (x1 : Int32) : Option (qv_St × Int32) :=
  (fX3_gather S0).bind fun S_1 =>
  if x1 < (-1) then
    some (S_1, (-1))
  else
    if x1 < (S_1.1 263 7) then
      if (S_1.1 9 1) = 0 then
        some (S_1, (-2))
      else
        (fX7_face S_1 (S_1.1 31 1)).bind fun S_2 =>
        (fX3_visit 6 S_2 0 0 0).bind fun S_3 =>
        (fX3_all S_3).bind fun r_1 =>
        qv_ck r_1 32 <|
        if (S_3.1 266 (Int32.toNatClampNeg r_1)) = 1000000 then
          some (S_3, (-2))
        else
          if x1 = (-1) then
            (fX3_all S_3).bind fun r_2 =>
            qv_ck r_2 32 <|
            some (S_3, (S_3.1 266 (Int32.toNatClampNeg r_2)))
          else
            qv_ck x1 5 <|
            some (S_3, (S_3.1 267 (Int32.toNatClampNeg x1)))
    else
      some (S_1, (-1))
set_option maxRecDepth 20000 in
set_option maxHeartbeats 4000000 in
theorem wX11_order (G : qv_GT) (S0 : qv_St) (x1 : Int32) : ∀ r, fX11_order S0 x1 = some r → Cn G Lk yX11_order cX11_order 2 (some .int) 14 [.ref (G.2.2.1 0), .int x1] S0 (qe_m r) := by
  refine cn_of (own := RX11) (emb := qe_m) (lv := [(0, .ref (G.2.2.1 0)), (1, .int x1)]) rfl rfl (Nat.le_of_ble_eq_true rfl) rfl (fun X => ?_)
  unfold fX11_order
  refine qr_aload_n (n := 1) 0 (dkX11_order (i := 0) rfl) rfl rfl ?_
  refine qr_geta (n := 4) 0 10 263 (dkX11_order (i := 1) rfl) rfl lkO_0 rfl gnX11 (Nat.le_of_ble_eq_true rfl) kfX11_80 rfl ?_
  refine qr_cvu (n := 7) 263 [] (dkX11_order (i := 2) rfl) rfl kvX11_267 rfl rfl (Nat.le_of_ble_eq_true rfl) rfl rfl lkO_263 rfl (wX3_gather G S0) (fun S_1 => ?_)
  refine qr_iload_n (n := 8) 1 (dkX11_order (i := 3) rfl) rfl rfl ?_
  refine qr_iconst (n := 9) (-1) (dkX11_order (i := 4) rfl) rfl (by decide) ?_
  refine qr_icmp_lt (t := 23) (n := 12) (dkX11_order (i := 5) rfl) (by decide) rfl ?_ ?_
  · refine qr_iconst (n := 24) (-1) (dkX11_order (i := 11) rfl) rfl (by decide) ?_
    exact qr_iret (dkX11_order (i := 12) rfl) rfl rfl
  · refine qr_iload_n (n := 13) 1 (dkX11_order (i := 6) rfl) rfl rfl ?_
    refine qr_aload_n (n := 14) 0 (dkX11_order (i := 7) rfl) rfl rfl ?_
    refine qr_geta (n := 17) 0 10 263 (dkX11_order (i := 8) rfl) rfl lkO_0 rfl gnX11 (Nat.le_of_ble_eq_true rfl) kfX11_80 rfl ?_
    refine qr_geti (n := 20) 263 7 (dkX11_order (i := 9) rfl) rfl lkO_263 rfl gnX3 (Nat.le_of_ble_eq_true rfl) kfX11_270 rfl ?_
    refine qr_icmp_lt (t := 25) (n := 23) (dkX11_order (i := 10) rfl) (by decide) rfl ?_ ?_
    · refine qr_aload_n (n := 26) 0 (dkX11_order (i := 13) rfl) rfl rfl ?_
      refine qr_geta (n := 29) 0 3 9 (dkX11_order (i := 14) rfl) rfl lkO_0 rfl gnX11 (Nat.le_of_ble_eq_true rfl) kfX11_35 rfl ?_
      refine qr_geti (n := 32) 9 1 (dkX11_order (i := 15) rfl) rfl lkO_9 rfl gnX5 (Nat.le_of_ble_eq_true rfl) kfX11_196 rfl ?_
      refine qr_if_ne (t := 38) (n := 35) (dkX11_order (i := 16) rfl) (by decide) rfl ?_ ?_
      · refine qr_aload_n (n := 39) 0 (dkX11_order (i := 19) rfl) rfl rfl ?_
        refine qr_geta (n := 42) 0 9 260 (dkX11_order (i := 20) rfl) rfl lkO_0 rfl gnX11 (Nat.le_of_ble_eq_true rfl) kfX11_71 rfl ?_
        refine qr_aload_n (n := 43) 0 (dkX11_order (i := 21) rfl) rfl rfl ?_
        refine qr_geta (n := 46) 0 4 31 (dkX11_order (i := 22) rfl) rfl lkO_0 rfl gnX11 (Nat.le_of_ble_eq_true rfl) kfX11_42 rfl ?_
        refine qr_geti (n := 49) 31 1 (dkX11_order (i := 23) rfl) rfl lkO_31 rfl gnX6 (Nat.le_of_ble_eq_true rfl) kfX11_199 rfl ?_
        refine qr_cvu (n := 52) 260 [.int (S_1.1 31 1)] (dkX11_order (i := 24) rfl) rfl kvX11_184 rfl rfl (Nat.le_of_ble_eq_true rfl) rfl rfl lkO_260 rfl (wX7_face G S_1 (S_1.1 31 1)) (fun S_2 => ?_)
        refine qr_aload_n (n := 53) 0 (dkX11_order (i := 25) rfl) rfl rfl ?_
        refine qr_geta (n := 56) 0 10 263 (dkX11_order (i := 26) rfl) rfl lkO_0 rfl gnX11 (Nat.le_of_ble_eq_true rfl) kfX11_80 rfl ?_
        refine qr_iconst (n := 57) 0 (dkX11_order (i := 27) rfl) rfl (by decide) ?_
        refine qr_iconst (n := 58) 0 (dkX11_order (i := 28) rfl) rfl (by decide) ?_
        refine qr_iconst (n := 59) 0 (dkX11_order (i := 29) rfl) rfl (by decide) ?_
        refine qr_cvu (n := 62) 263 [.int 0, .int 0, .int 0] (dkX11_order (i := 30) rfl) rfl kvX11_271 rfl rfl (Nat.le_of_ble_eq_true rfl) rfl rfl lkO_263 rfl (wX3_visit G 6 S_2 0 0 0) (fun S_3 => ?_)
        refine qr_aload_n (n := 63) 0 (dkX11_order (i := 31) rfl) rfl rfl ?_
        refine qr_geta (n := 66) 0 10 263 (dkX11_order (i := 32) rfl) rfl lkO_0 rfl gnX11 (Nat.le_of_ble_eq_true rfl) kfX11_80 rfl ?_
        refine qr_geta (n := 69) 263 5 266 (dkX11_order (i := 33) rfl) rfl lkO_263 rfl gnX3 (Nat.le_of_ble_eq_true rfl) kfX11_274 rfl ?_
        refine qr_aload_n (n := 70) 0 (dkX11_order (i := 34) rfl) rfl rfl ?_
        refine qr_geta (n := 73) 0 10 263 (dkX11_order (i := 35) rfl) rfl lkO_0 rfl gnX11 (Nat.le_of_ble_eq_true rfl) kfX11_80 rfl ?_
        refine qr_cvi (n := 76) 263 [] (dkX11_order (i := 36) rfl) rfl kvX11_277 rfl rfl (Nat.le_of_ble_eq_true rfl) rfl rfl lkO_263 rfl (wX3_all G S_3) (fun r_1 => ?_)
        refine qr_iald (n := 77) 266 32 (dkX11_order (i := 37) rfl) rfl lkA_266 ?_
        refine qr_ldcw (n := 80) 1000000 (dkX11_order (i := 38) rfl) rfl kcX11_281 ?_
        refine qr_icmp_ne (t := 86) (n := 83) (dkX11_order (i := 39) rfl) (by decide) rfl ?_ ?_
        · refine qr_iload_n (n := 87) 1 (dkX11_order (i := 42) rfl) rfl rfl ?_
          refine qr_iconst (n := 88) (-1) (dkX11_order (i := 43) rfl) rfl (by decide) ?_
          refine qr_icmp_ne (t := 109) (n := 91) (dkX11_order (i := 44) rfl) (by decide) rfl ?_ ?_
          · refine qr_aload_n (n := 110) 0 (dkX11_order (i := 53) rfl) rfl rfl ?_
            refine qr_geta (n := 113) 0 10 263 (dkX11_order (i := 54) rfl) rfl lkO_0 rfl gnX11 (Nat.le_of_ble_eq_true rfl) kfX11_80 rfl ?_
            refine qr_geta (n := 116) 263 6 267 (dkX11_order (i := 55) rfl) rfl lkO_263 rfl gnX3 (Nat.le_of_ble_eq_true rfl) kfX11_282 rfl ?_
            refine qr_iload_n (n := 117) 1 (dkX11_order (i := 56) rfl) rfl rfl ?_
            refine qr_iald (n := 118) 267 5 (dkX11_order (i := 57) rfl) rfl lkA_267 ?_
            exact qr_iret (dkX11_order (i := 58) rfl) rfl rfl
          · refine qr_aload_n (n := 92) 0 (dkX11_order (i := 45) rfl) rfl rfl ?_
            refine qr_geta (n := 95) 0 10 263 (dkX11_order (i := 46) rfl) rfl lkO_0 rfl gnX11 (Nat.le_of_ble_eq_true rfl) kfX11_80 rfl ?_
            refine qr_geta (n := 98) 263 5 266 (dkX11_order (i := 47) rfl) rfl lkO_263 rfl gnX3 (Nat.le_of_ble_eq_true rfl) kfX11_274 rfl ?_
            refine qr_aload_n (n := 99) 0 (dkX11_order (i := 48) rfl) rfl rfl ?_
            refine qr_geta (n := 102) 0 10 263 (dkX11_order (i := 49) rfl) rfl lkO_0 rfl gnX11 (Nat.le_of_ble_eq_true rfl) kfX11_80 rfl ?_
            refine qr_cvi (n := 105) 263 [] (dkX11_order (i := 50) rfl) rfl kvX11_277 rfl rfl (Nat.le_of_ble_eq_true rfl) rfl rfl lkO_263 rfl (wX3_all G S_3) (fun r_2 => ?_)
            refine qr_iald (n := 106) 266 32 (dkX11_order (i := 51) rfl) rfl lkA_266 ?_
            refine qr_goto (n := 118) (dkX11_order (i := 52) rfl) (by decide) ?_
            exact qr_iret (dkX11_order (i := 58) rfl) rfl rfl
        · refine qr_bipush (n := 85) (-2) (dkX11_order (i := 40) rfl) rfl (by decide) ?_
          exact qr_iret (dkX11_order (i := 41) rfl) rfl rfl
      · refine qr_bipush (n := 37) (-2) (dkX11_order (i := 17) rfl) rfl (by decide) ?_
        exact qr_iret (dkX11_order (i := 18) rfl) rfl rfl
    · refine qr_iconst (n := 24) (-1) (dkX11_order (i := 11) rfl) rfl (by decide) ?_
      exact qr_iret (dkX11_order (i := 12) rfl) rfl rfl
def tbX11_bribe : List (Nat × Instr × Nat) := [(0, .aload_n 0, 1), (1, .iload_n 1, 1), (2, .invokevirtual 151, 3), (5, .ifCond .eq 12, 3), (8, .iload_n 2, 1), (9, .iconst 0, 1), (10, .iconst 1, 1), (11, .invokestatic 176, 3), (14, .ifCond .ne 5, 3), (17, .iconst (-1), 1), (18, .ireturn, 1), (19, .aload_n 0, 1), (20, .getfield 35, 3), (23, .getfield 196, 3), (26, .ifCond .ne 6, 3), (29, .bipush (-2), 2), (31, .ireturn, 1), (32, .aload_n 0, 1), (33, .getfield 71, 3), (36, .aload_n 0, 1), (37, .getfield 42, 3), (40, .getfield 199, 3), (43, .invokevirtual 184, 3), (46, .aload_n 0, 1), (47, .getfield 71, 3), (50, .iload_n 1, 1), (51, .iconst 0, 1), (52, .sipush 300, 3), (55, .invokevirtual 264, 3), (58, .istore_n 3, 1), (59, .iload_n 3, 1), (60, .ifCond .ge 7, 3), (63, .sipush 301, 3), (66, .istore_n 3, 1), (67, .bipush (-2), 2), (69, .istore 4, 2), (71, .iload_n 3, 1), (72, .istore 5, 2), (74, .iconst 0, 1), (75, .istore 6, 2), (77, .iload 6, 2), (79, .aload_n 0, 1), (80, .getfield 35, 3), (83, .getfield 285, 3), (86, .if_icmp .ge 38, 3), (89, .aload_n 0, 1), (90, .getfield 71, 3), (93, .iload 6, 2), (95, .iload_n 1, 1), (96, .iload 5, 2), (98, .iconst 1, 1), (99, .isub, 1), (100, .invokevirtual 288, 3), (103, .istore 7, 2), (105, .iload 7, 2), (107, .ifCond .lt 11, 3), (110, .iload 6, 2), (112, .istore 4, 2), (114, .iload 7, 2), (116, .istore 5, 2), (118, .iinc 6 1, 3), (121, .goto (-44), 3), (124, .iload 4, 2), (126, .ifCond .ge 6, 3), (129, .bipush (-2), 2), (131, .ireturn, 1), (132, .iload_n 2, 1), (133, .ifCond .ne 8, 3), (136, .iload 4, 2), (138, .goto 7, 3), (141, .iload_n 3, 1), (142, .iload 5, 2), (144, .isub, 1), (145, .ireturn, 1)]
set_option maxRecDepth 20000 in
theorem daX11_bribe : ∀ x ∈ tbX11_bribe, decode cX11_bribe x.1 = .ok x.2 := by decide +kernel
theorem dkX11_bribe {i pc n : Nat} {ins : Instr} (h : tbX11_bribe[i]? = some (pc, ins, n)) : decode cX11_bribe pc = .ok (ins, n) := daX11_bribe (pc, ins, n) (List.mem_of_getElem? h)
def fX11_bribe (S0 : qv_St) (x1 : Int32) (x2 : Int32) : Option (qv_St × Int32) :=
  (fX11_isShot S0 x1).bind fun r_1 =>
  if r_1 = 0 then
    some (S0, (-1))
  else
    (fX11_within x2 0 1).bind fun r_2 =>
    if r_2 = 0 then
      some (S0, (-1))
    else
      if (S0.1 9 1) = 0 then
        some (S0, (-2))
      else
        (fX7_face S0 (S0.1 31 1)).bind fun S_1 =>
        qv_cm (fX7_firstGood S_1 x1 0 300) fun S_2 r_3 =>
        qv_j (fun (x3_1 : Int32) =>
          qv_j (fun (S_3 : qv_St) (x4_1 : Int32) (x5_1 : Int32) =>
            if 0 ≤ x4_1 then
              if x2 = 0 then
                some (S_3, x4_1)
              else
                some (S_3, (x3_1 - x5_1))
            else
              some (S_3, (-2))) fun K_2 =>
          qv_lp4 qv_N (fun self_1 (S_4 : qv_St) (x4_2 : Int32) (x5_2 : Int32) (x6_1 : Int32) =>
            if (S_4.1 9 0) ≤ x6_1 then
              K_2 S_4 x4_2 x5_2
            else
              qv_cm (fX7_firstGoodWithout S_4 x6_1 x1 (x5_2 - 1)) fun S_5 r_4 =>
              qv_j (fun (x4_3 : Int32) (x5_3 : Int32) =>
                self_1 S_5 x4_3 x5_3 (x6_1 + 1)) fun K_3 =>
              if r_4 < 0 then
                K_3 x4_2 x5_2
              else
                K_3 x6_1 r_4) S_2 (-2) x3_1 0) fun K_1 =>
        if 0 ≤ r_3 then
          K_1 r_3
        else
          K_1 301
set_option maxRecDepth 20000 in
set_option maxHeartbeats 4000000 in
theorem wX11_bribe (G : qv_GT) (S0 : qv_St) (x1 : Int32) (x2 : Int32) : ∀ r, fX11_bribe S0 x1 x2 = some r → Cn G Lk yX11_bribe cX11_bribe 8 (some .int) 7 [.ref (G.2.2.1 0), .int x1, .int x2] S0 (qe_m r) := by
  refine cn_of (own := RX11) (emb := qe_m) (lv := [(0, .ref (G.2.2.1 0)), (1, .int x1), (2, .int x2)]) rfl rfl (Nat.le_of_ble_eq_true rfl) rfl (fun X => ?_)
  unfold fX11_bribe
  refine qr_aload_n (n := 1) 0 (dkX11_bribe (i := 0) rfl) rfl rfl ?_
  refine qr_iload_n (n := 2) 1 (dkX11_bribe (i := 1) rfl) rfl rfl ?_
  refine qr_cvi (n := 5) 0 [.int x1] (dkX11_bribe (i := 2) rfl) rfl kvX11_151 rfl rfl (Nat.le_of_ble_eq_true rfl) rfl rfl lkO_0 rfl (wX11_isShot G S0 x1) (fun r_1 => ?_)
  refine qr_if_eq (t := 17) (n := 8) (dkX11_bribe (i := 3) rfl) (by decide) rfl ?_ ?_
  · refine qr_iconst (n := 18) (-1) (dkX11_bribe (i := 9) rfl) rfl (by decide) ?_
    exact qr_iret (dkX11_bribe (i := 10) rfl) rfl rfl
  · refine qr_iload_n (n := 9) 2 (dkX11_bribe (i := 4) rfl) rfl rfl ?_
    refine qr_iconst (n := 10) 0 (dkX11_bribe (i := 5) rfl) rfl (by decide) ?_
    refine qr_iconst (n := 11) 1 (dkX11_bribe (i := 6) rfl) rfl (by decide) ?_
    refine qr_csi (n := 14) [.int x2, .int 0, .int 1] (dkX11_bribe (i := 7) rfl) rfl kvX11_176 rfl rfl (Nat.le_of_ble_eq_true rfl) rfl rfl (wX11_within G S0 x2 0 1) (fun r_2 => ?_)
    refine qr_if_ne (t := 19) (n := 17) (dkX11_bribe (i := 8) rfl) (by decide) rfl ?_ ?_
    · refine qr_aload_n (n := 20) 0 (dkX11_bribe (i := 11) rfl) rfl rfl ?_
      refine qr_geta (n := 23) 0 3 9 (dkX11_bribe (i := 12) rfl) rfl lkO_0 rfl gnX11 (Nat.le_of_ble_eq_true rfl) kfX11_35 rfl ?_
      refine qr_geti (n := 26) 9 1 (dkX11_bribe (i := 13) rfl) rfl lkO_9 rfl gnX5 (Nat.le_of_ble_eq_true rfl) kfX11_196 rfl ?_
      refine qr_if_ne (t := 32) (n := 29) (dkX11_bribe (i := 14) rfl) (by decide) rfl ?_ ?_
      · refine qr_aload_n (n := 33) 0 (dkX11_bribe (i := 17) rfl) rfl rfl ?_
        refine qr_geta (n := 36) 0 9 260 (dkX11_bribe (i := 18) rfl) rfl lkO_0 rfl gnX11 (Nat.le_of_ble_eq_true rfl) kfX11_71 rfl ?_
        refine qr_aload_n (n := 37) 0 (dkX11_bribe (i := 19) rfl) rfl rfl ?_
        refine qr_geta (n := 40) 0 4 31 (dkX11_bribe (i := 20) rfl) rfl lkO_0 rfl gnX11 (Nat.le_of_ble_eq_true rfl) kfX11_42 rfl ?_
        refine qr_geti (n := 43) 31 1 (dkX11_bribe (i := 21) rfl) rfl lkO_31 rfl gnX6 (Nat.le_of_ble_eq_true rfl) kfX11_199 rfl ?_
        refine qr_cvu (n := 46) 260 [.int (S0.1 31 1)] (dkX11_bribe (i := 22) rfl) rfl kvX11_184 rfl rfl (Nat.le_of_ble_eq_true rfl) rfl rfl lkO_260 rfl (wX7_face G S0 (S0.1 31 1)) (fun S_1 => ?_)
        refine qr_aload_n (n := 47) 0 (dkX11_bribe (i := 23) rfl) rfl rfl ?_
        refine qr_geta (n := 50) 0 9 260 (dkX11_bribe (i := 24) rfl) rfl lkO_0 rfl gnX11 (Nat.le_of_ble_eq_true rfl) kfX11_71 rfl ?_
        refine qr_iload_n (n := 51) 1 (dkX11_bribe (i := 25) rfl) rfl rfl ?_
        refine qr_iconst (n := 52) 0 (dkX11_bribe (i := 26) rfl) rfl (by decide) ?_
        refine qr_sipush (n := 55) 300 (dkX11_bribe (i := 27) rfl) rfl (by decide) ?_
        refine qr_cvm (n := 58) 260 [.int x1, .int 0, .int 300] (dkX11_bribe (i := 28) rfl) rfl kvX11_264 rfl rfl (Nat.le_of_ble_eq_true rfl) rfl rfl lkO_260 rfl (wX7_firstGood G S_1 x1 0 300) (fun S_2 r_3 => ?_)
        refine qr_istore_n (n := 59) (lv2 := [(0, .ref (G.2.2.1 0)), (1, .int x1), (2, .int x2), (3, .int r_3)]) [1, 2, 3, 0] (dkX11_bribe (i := 29) rfl) rfl rfl (by decide) rfl ?_
        refine qr_iload_n (n := 60) 3 (dkX11_bribe (i := 30) rfl) rfl rfl ?_
        refine qr_j (fun K_1 : Int32 → Option (qv_St × Int32) => ∀ (x3_1 : Int32), VV G Lk X RX11 cX11_bribe 8 (some .int) 7 qe_m 67 [(0, .ref (G.2.2.1 0)), (1, .int x1), (2, .int x2), (3, .int x3_1)] [] S_2 (K_1 x3_1)) (fun x3_1 => ?_) (fun K_1 hK_1 => ?_)
        · refine qr_bipush (n := 69) (-2) (dkX11_bribe (i := 34) rfl) rfl (by decide) ?_
          refine qr_istore (n := 71) (lv2 := [(0, .ref (G.2.2.1 0)), (1, .int x1), (2, .int x2), (3, .int x3_1), (4, .int (-2))]) [1, 2, 3, 4, 0] (dkX11_bribe (i := 35) rfl) rfl (by decide) rfl ?_
          refine qr_iload_n (n := 72) 3 (dkX11_bribe (i := 36) rfl) rfl rfl ?_
          refine qr_istore (n := 74) (lv2 := [(0, .ref (G.2.2.1 0)), (1, .int x1), (2, .int x2), (3, .int x3_1), (4, .int (-2)), (5, .int x3_1)]) [1, 2, 3, 4, 5, 0] (dkX11_bribe (i := 37) rfl) rfl (by decide) rfl ?_
          refine qr_iconst (n := 75) 0 (dkX11_bribe (i := 38) rfl) rfl (by decide) ?_
          refine qr_istore (n := 77) (lv2 := [(0, .ref (G.2.2.1 0)), (1, .int x1), (2, .int x2), (3, .int x3_1), (4, .int (-2)), (5, .int x3_1), (6, .int 0)]) [1, 2, 3, 4, 5, 6, 0] (dkX11_bribe (i := 39) rfl) rfl (by decide) rfl ?_
          refine qr_j (fun K_2 : qv_St → Int32 → Int32 → Option (qv_St × Int32) => ∀ (S_3 : qv_St) (x4_1 : Int32) (x5_1 : Int32), VV G Lk X RX11 cX11_bribe 8 (some .int) 7 qe_m 124 [(2, .int x2), (3, .int x3_1), (4, .int x4_1), (5, .int x5_1)] [] S_3 (K_2 S_3 x4_1 x5_1)) (fun S_3 x4_1 x5_1 => ?_) (fun K_2 hK_2 => ?_)
          · refine qr_iload (n := 126) 2 (dkX11_bribe (i := 62) rfl) rfl rfl ?_
            refine qr_if_ge (t := 132) (n := 129) (dkX11_bribe (i := 63) rfl) (by decide) rfl ?_ ?_
            · refine qr_iload_n (n := 133) 0 (dkX11_bribe (i := 66) rfl) rfl rfl ?_
              refine qr_if_ne (t := 141) (n := 136) (dkX11_bribe (i := 67) rfl) (by decide) rfl ?_ ?_
              · refine qr_iload_n (n := 142) 1 (dkX11_bribe (i := 70) rfl) rfl rfl ?_
                refine qr_iload (n := 144) 3 (dkX11_bribe (i := 71) rfl) rfl rfl ?_
                refine qr_isub (n := 145) (dkX11_bribe (i := 72) rfl) rfl ?_
                exact qr_iret (dkX11_bribe (i := 73) rfl) rfl rfl
              · refine qr_iload (n := 138) 2 (dkX11_bribe (i := 68) rfl) rfl rfl ?_
                refine qr_goto (n := 145) (dkX11_bribe (i := 69) rfl) (by decide) ?_
                exact qr_iret (dkX11_bribe (i := 73) rfl) rfl rfl
            · refine qr_bipush (n := 131) (-2) (dkX11_bribe (i := 64) rfl) rfl (by decide) ?_
              exact qr_iret (dkX11_bribe (i := 65) rfl) rfl rfl
          · refine qr_lp4 (fun (S_4 : qv_St) (x4_2 : Int32) (x5_2 : Int32) (x6_1 : Int32) => [(0, .ref (G.2.2.1 0)), (1, .int x1), (2, .int x2), (3, .int x3_1), (4, .int x4_2), (5, .int x5_2), (6, .int x6_1)]) (fun (S_4 : qv_St) (x4_2 : Int32) (x5_2 : Int32) (x6_1 : Int32) => S_4) (fun self_1 hself_1 S_4 x4_2 x5_2 x6_1 => ?_) qv_N S_2 (-2) x3_1 0
            refine qr_iload (n := 79) 6 (dkX11_bribe (i := 40) rfl) rfl rfl ?_
            refine qr_aload_n (n := 80) 0 (dkX11_bribe (i := 41) rfl) rfl rfl ?_
            refine qr_geta (n := 83) 0 3 9 (dkX11_bribe (i := 42) rfl) rfl lkO_0 rfl gnX11 (Nat.le_of_ble_eq_true rfl) kfX11_35 rfl ?_
            refine qr_geti (n := 86) 9 0 (dkX11_bribe (i := 43) rfl) rfl lkO_9 rfl gnX5 (Nat.le_of_ble_eq_true rfl) kfX11_285 rfl ?_
            refine qr_icmp_ge (t := 124) (n := 89) (dkX11_bribe (i := 44) rfl) (by decide) rfl ?_ ?_
            · refine qr_sub [2, 3, 4, 5] rfl ?_
              exact hK_2 S_4 x4_2 x5_2
            · refine qr_aload_n (n := 90) 0 (dkX11_bribe (i := 45) rfl) rfl rfl ?_
              refine qr_geta (n := 93) 0 9 260 (dkX11_bribe (i := 46) rfl) rfl lkO_0 rfl gnX11 (Nat.le_of_ble_eq_true rfl) kfX11_71 rfl ?_
              refine qr_iload (n := 95) 6 (dkX11_bribe (i := 47) rfl) rfl rfl ?_
              refine qr_iload_n (n := 96) 1 (dkX11_bribe (i := 48) rfl) rfl rfl ?_
              refine qr_iload (n := 98) 5 (dkX11_bribe (i := 49) rfl) rfl rfl ?_
              refine qr_iconst (n := 99) 1 (dkX11_bribe (i := 50) rfl) rfl (by decide) ?_
              refine qr_isub (n := 100) (dkX11_bribe (i := 51) rfl) rfl ?_
              refine qr_cvm (n := 103) 260 [.int x6_1, .int x1, .int (x5_2 - 1)] (dkX11_bribe (i := 52) rfl) rfl kvX11_288 rfl rfl (Nat.le_of_ble_eq_true rfl) rfl rfl lkO_260 rfl (wX7_firstGoodWithout G S_4 x6_1 x1 (x5_2 - 1)) (fun S_5 r_4 => ?_)
              refine qr_istore (n := 105) (lv2 := [(0, .ref (G.2.2.1 0)), (1, .int x1), (2, .int x2), (3, .int x3_1), (4, .int x4_2), (5, .int x5_2), (6, .int x6_1), (7, .int r_4)]) [1, 2, 3, 4, 5, 6, 7, 0] (dkX11_bribe (i := 53) rfl) rfl (by decide) rfl ?_
              refine qr_iload (n := 107) 7 (dkX11_bribe (i := 54) rfl) rfl rfl ?_
              refine qr_j (fun K_3 : Int32 → Int32 → Option (qv_St × Int32) => ∀ (x4_3 : Int32) (x5_3 : Int32), VV G Lk X RX11 cX11_bribe 8 (some .int) 7 qe_m 118 [(0, .ref (G.2.2.1 0)), (1, .int x1), (2, .int x2), (3, .int x3_1), (4, .int x4_3), (5, .int x5_3), (6, .int x6_1)] [] S_5 (K_3 x4_3 x5_3)) (fun x4_3 x5_3 => ?_) (fun K_3 hK_3 => ?_)
              · refine qr_iinc (n := 121) (v := 1) (lv2 := [(0, .ref (G.2.2.1 0)), (1, .int x1), (2, .int x2), (3, .int x3_1), (4, .int x4_3), (5, .int x5_3), (6, .int (x6_1 + 1))]) 6 [1, 2, 3, 4, 5, 6, 0] (dkX11_bribe (i := 60) rfl) rfl rfl (by decide) (by decide) rfl ?_
                refine qr_goto (n := 77) (dkX11_bribe (i := 61) rfl) (by decide) ?_
                exact hself_1 S_5 x4_3 x5_3 (x6_1 + 1)
              · refine qr_if_lt (t := 118) (n := 110) (dkX11_bribe (i := 55) rfl) (by decide) rfl ?_ ?_
                · refine qr_sub [0, 1, 2, 3, 4, 5, 6] rfl ?_
                  exact hK_3 x4_2 x5_2
                · refine qr_iload (n := 112) 6 (dkX11_bribe (i := 56) rfl) rfl rfl ?_
                  refine qr_istore (n := 114) (lv2 := [(0, .ref (G.2.2.1 0)), (1, .int x1), (2, .int x2), (3, .int x3_1), (4, .int x6_1), (5, .int x5_2), (6, .int x6_1), (7, .int r_4)]) [1, 2, 3, 4, 0, 5, 6, 7] (dkX11_bribe (i := 57) rfl) rfl (by decide) rfl ?_
                  refine qr_iload (n := 116) 7 (dkX11_bribe (i := 58) rfl) rfl rfl ?_
                  refine qr_istore (n := 118) (lv2 := [(0, .ref (G.2.2.1 0)), (1, .int x1), (2, .int x2), (3, .int x3_1), (4, .int x6_1), (5, .int r_4), (6, .int x6_1), (7, .int r_4)]) [1, 2, 3, 4, 5, 0, 6, 7] (dkX11_bribe (i := 59) rfl) rfl (by decide) rfl ?_
                  refine qr_sub [0, 1, 2, 3, 4, 5, 6] rfl ?_
                  exact hK_3 x6_1 r_4
        · refine qr_if_ge (t := 67) (n := 63) (dkX11_bribe (i := 31) rfl) (by decide) rfl ?_ ?_
          · exact hK_1 r_3
          · refine qr_sipush (n := 66) 301 (dkX11_bribe (i := 32) rfl) rfl (by decide) ?_
            refine qr_istore_n (n := 67) (lv2 := [(0, .ref (G.2.2.1 0)), (1, .int x1), (2, .int x2), (3, .int 301)]) [1, 2, 3, 0] (dkX11_bribe (i := 33) rfl) rfl rfl (by decide) rfl ?_
            exact hK_1 301
      · refine qr_bipush (n := 31) (-2) (dkX11_bribe (i := 15) rfl) rfl (by decide) ?_
        exact qr_iret (dkX11_bribe (i := 16) rfl) rfl rfl
    · refine qr_iconst (n := 18) (-1) (dkX11_bribe (i := 9) rfl) rfl (by decide) ?_
      exact qr_iret (dkX11_bribe (i := 10) rfl) rfl rfl
def tbX11_cellar : List (Nat × Instr × Nat) := [(0, .iload_n 1, 1), (1, .iconst 0, 1), (2, .sipush 2000, 3), (5, .invokestatic 176, 3), (8, .ifCond .eq 12, 3), (11, .iload_n 2, 1), (12, .iconst 0, 1), (13, .iconst 1, 1), (14, .invokestatic 176, 3), (17, .ifCond .ne 5, 3), (20, .iconst (-1), 1), (21, .ireturn, 1), (22, .aload_n 0, 1), (23, .getfield 35, 3), (26, .getfield 196, 3), (29, .ifCond .ne 6, 3), (32, .bipush (-2), 2), (34, .ireturn, 1), (35, .aload_n 0, 1), (36, .getfield 80, 3), (39, .invokevirtual 267, 3), (42, .aload_n 0, 1), (43, .getfield 71, 3), (46, .aload_n 0, 1), (47, .getfield 42, 3), (50, .getfield 199, 3), (53, .invokevirtual 184, 3), (56, .aload_n 0, 1), (57, .getfield 80, 3), (60, .iconst 0, 1), (61, .iconst 0, 1), (62, .iconst 0, 1), (63, .invokevirtual 271, 3), (66, .aload_n 0, 1), (67, .getfield 80, 3), (70, .iload_n 1, 1), (71, .invokevirtual 291, 3), (74, .istore_n 3, 1), (75, .iload_n 2, 1), (76, .ifCond .ne 10, 3), (79, .iload_n 3, 1), (80, .invokestatic 294, 3), (83, .goto 11, 3), (86, .aload_n 0, 1), (87, .getfield 80, 3), (90, .iload_n 3, 1), (91, .invokevirtual 299, 3), (94, .ireturn, 1)]
set_option maxRecDepth 20000 in
theorem daX11_cellar : ∀ x ∈ tbX11_cellar, decode cX11_cellar x.1 = .ok x.2 := by decide +kernel
theorem dkX11_cellar {i pc n : Nat} {ins : Instr} (h : tbX11_cellar[i]? = some (pc, ins, n)) : decode cX11_cellar pc = .ok (ins, n) := daX11_cellar (pc, ins, n) (List.mem_of_getElem? h)
def fX11_cellar (S0 : qv_St) (x1 : Int32) (x2 : Int32) : Option (qv_St × Int32) :=
  (fX11_within x1 0 2000).bind fun r_1 =>
  if r_1 = 0 then
    some (S0, (-1))
  else
    (fX11_within x2 0 1).bind fun r_2 =>
    if r_2 = 0 then
      some (S0, (-1))
    else
      if (S0.1 9 1) = 0 then
        some (S0, (-2))
      else
        (fX3_gather S0).bind fun S_1 =>
        (fX7_face S_1 (S_1.1 31 1)).bind fun S_2 =>
        (fX3_visit 6 S_2 0 0 0).bind fun S_3 =>
        (fX3_fewestLeft S_3 x1).bind fun r_3 =>
        if x2 = 0 then
          (fJ6_bitCount_0f7a4 r_3).bind fun r_5 =>
          some (S_3, r_5)
        else
          (fX3_shotBits S_3 r_3).bind fun r_4 =>
          some (S_3, r_4)
set_option maxRecDepth 20000 in
set_option maxHeartbeats 4000000 in
theorem wX11_cellar (G : qv_GT) (S0 : qv_St) (x1 : Int32) (x2 : Int32) : ∀ r, fX11_cellar S0 x1 x2 = some r → Cn G Lk yX11_cellar cX11_cellar 4 (some .int) 14 [.ref (G.2.2.1 0), .int x1, .int x2] S0 (qe_m r) := by
  refine cn_of (own := RX11) (emb := qe_m) (lv := [(0, .ref (G.2.2.1 0)), (1, .int x1), (2, .int x2)]) rfl rfl (Nat.le_of_ble_eq_true rfl) rfl (fun X => ?_)
  unfold fX11_cellar
  refine qr_iload_n (n := 1) 1 (dkX11_cellar (i := 0) rfl) rfl rfl ?_
  refine qr_iconst (n := 2) 0 (dkX11_cellar (i := 1) rfl) rfl (by decide) ?_
  refine qr_sipush (n := 5) 2000 (dkX11_cellar (i := 2) rfl) rfl (by decide) ?_
  refine qr_csi (n := 8) [.int x1, .int 0, .int 2000] (dkX11_cellar (i := 3) rfl) rfl kvX11_176 rfl rfl (Nat.le_of_ble_eq_true rfl) rfl rfl (wX11_within G S0 x1 0 2000) (fun r_1 => ?_)
  refine qr_if_eq (t := 20) (n := 11) (dkX11_cellar (i := 4) rfl) (by decide) rfl ?_ ?_
  · refine qr_iconst (n := 21) (-1) (dkX11_cellar (i := 10) rfl) rfl (by decide) ?_
    exact qr_iret (dkX11_cellar (i := 11) rfl) rfl rfl
  · refine qr_iload_n (n := 12) 2 (dkX11_cellar (i := 5) rfl) rfl rfl ?_
    refine qr_iconst (n := 13) 0 (dkX11_cellar (i := 6) rfl) rfl (by decide) ?_
    refine qr_iconst (n := 14) 1 (dkX11_cellar (i := 7) rfl) rfl (by decide) ?_
    refine qr_csi (n := 17) [.int x2, .int 0, .int 1] (dkX11_cellar (i := 8) rfl) rfl kvX11_176 rfl rfl (Nat.le_of_ble_eq_true rfl) rfl rfl (wX11_within G S0 x2 0 1) (fun r_2 => ?_)
    refine qr_if_ne (t := 22) (n := 20) (dkX11_cellar (i := 9) rfl) (by decide) rfl ?_ ?_
    · refine qr_aload_n (n := 23) 0 (dkX11_cellar (i := 12) rfl) rfl rfl ?_
      refine qr_geta (n := 26) 0 3 9 (dkX11_cellar (i := 13) rfl) rfl lkO_0 rfl gnX11 (Nat.le_of_ble_eq_true rfl) kfX11_35 rfl ?_
      refine qr_geti (n := 29) 9 1 (dkX11_cellar (i := 14) rfl) rfl lkO_9 rfl gnX5 (Nat.le_of_ble_eq_true rfl) kfX11_196 rfl ?_
      refine qr_if_ne (t := 35) (n := 32) (dkX11_cellar (i := 15) rfl) (by decide) rfl ?_ ?_
      · refine qr_aload_n (n := 36) 0 (dkX11_cellar (i := 18) rfl) rfl rfl ?_
        refine qr_geta (n := 39) 0 10 263 (dkX11_cellar (i := 19) rfl) rfl lkO_0 rfl gnX11 (Nat.le_of_ble_eq_true rfl) kfX11_80 rfl ?_
        refine qr_cvu (n := 42) 263 [] (dkX11_cellar (i := 20) rfl) rfl kvX11_267 rfl rfl (Nat.le_of_ble_eq_true rfl) rfl rfl lkO_263 rfl (wX3_gather G S0) (fun S_1 => ?_)
        refine qr_aload_n (n := 43) 0 (dkX11_cellar (i := 21) rfl) rfl rfl ?_
        refine qr_geta (n := 46) 0 9 260 (dkX11_cellar (i := 22) rfl) rfl lkO_0 rfl gnX11 (Nat.le_of_ble_eq_true rfl) kfX11_71 rfl ?_
        refine qr_aload_n (n := 47) 0 (dkX11_cellar (i := 23) rfl) rfl rfl ?_
        refine qr_geta (n := 50) 0 4 31 (dkX11_cellar (i := 24) rfl) rfl lkO_0 rfl gnX11 (Nat.le_of_ble_eq_true rfl) kfX11_42 rfl ?_
        refine qr_geti (n := 53) 31 1 (dkX11_cellar (i := 25) rfl) rfl lkO_31 rfl gnX6 (Nat.le_of_ble_eq_true rfl) kfX11_199 rfl ?_
        refine qr_cvu (n := 56) 260 [.int (S_1.1 31 1)] (dkX11_cellar (i := 26) rfl) rfl kvX11_184 rfl rfl (Nat.le_of_ble_eq_true rfl) rfl rfl lkO_260 rfl (wX7_face G S_1 (S_1.1 31 1)) (fun S_2 => ?_)
        refine qr_aload_n (n := 57) 0 (dkX11_cellar (i := 27) rfl) rfl rfl ?_
        refine qr_geta (n := 60) 0 10 263 (dkX11_cellar (i := 28) rfl) rfl lkO_0 rfl gnX11 (Nat.le_of_ble_eq_true rfl) kfX11_80 rfl ?_
        refine qr_iconst (n := 61) 0 (dkX11_cellar (i := 29) rfl) rfl (by decide) ?_
        refine qr_iconst (n := 62) 0 (dkX11_cellar (i := 30) rfl) rfl (by decide) ?_
        refine qr_iconst (n := 63) 0 (dkX11_cellar (i := 31) rfl) rfl (by decide) ?_
        refine qr_cvu (n := 66) 263 [.int 0, .int 0, .int 0] (dkX11_cellar (i := 32) rfl) rfl kvX11_271 rfl rfl (Nat.le_of_ble_eq_true rfl) rfl rfl lkO_263 rfl (wX3_visit G 6 S_2 0 0 0) (fun S_3 => ?_)
        refine qr_aload_n (n := 67) 0 (dkX11_cellar (i := 33) rfl) rfl rfl ?_
        refine qr_geta (n := 70) 0 10 263 (dkX11_cellar (i := 34) rfl) rfl lkO_0 rfl gnX11 (Nat.le_of_ble_eq_true rfl) kfX11_80 rfl ?_
        refine qr_iload_n (n := 71) 1 (dkX11_cellar (i := 35) rfl) rfl rfl ?_
        refine qr_cvi (n := 74) 263 [.int x1] (dkX11_cellar (i := 36) rfl) rfl kvX11_291 rfl rfl (Nat.le_of_ble_eq_true rfl) rfl rfl lkO_263 rfl (wX3_fewestLeft G S_3 x1) (fun r_3 => ?_)
        refine qr_istore_n (n := 75) (lv2 := [(0, .ref (G.2.2.1 0)), (1, .int x1), (2, .int x2), (3, .int r_3)]) [1, 2, 3, 0] (dkX11_cellar (i := 37) rfl) rfl rfl (by decide) rfl ?_
        refine qr_iload_n (n := 76) 2 (dkX11_cellar (i := 38) rfl) rfl rfl ?_
        refine qr_if_ne (t := 86) (n := 79) (dkX11_cellar (i := 39) rfl) (by decide) rfl ?_ ?_
        · refine qr_aload_n (n := 87) 0 (dkX11_cellar (i := 43) rfl) rfl rfl ?_
          refine qr_geta (n := 90) 0 10 263 (dkX11_cellar (i := 44) rfl) rfl lkO_0 rfl gnX11 (Nat.le_of_ble_eq_true rfl) kfX11_80 rfl ?_
          refine qr_iload_n (n := 91) 3 (dkX11_cellar (i := 45) rfl) rfl rfl ?_
          refine qr_cvi (n := 94) 263 [.int r_3] (dkX11_cellar (i := 46) rfl) rfl kvX11_299 rfl rfl (Nat.le_of_ble_eq_true rfl) rfl rfl lkO_263 rfl (wX3_shotBits G S_3 r_3) (fun r_4 => ?_)
          exact qr_iret (dkX11_cellar (i := 47) rfl) rfl rfl
        · refine qr_iload_n (n := 80) 3 (dkX11_cellar (i := 40) rfl) rfl rfl ?_
          refine qr_csi (n := 83) [.int r_3] (dkX11_cellar (i := 41) rfl) rfl kvX11_294 rfl rfl (Nat.le_of_ble_eq_true rfl) rfl rfl (wJ6_bitCount_0f7a4 G S_3 r_3) (fun r_5 => ?_)
          refine qr_goto (n := 94) (dkX11_cellar (i := 42) rfl) (by decide) ?_
          exact qr_iret (dkX11_cellar (i := 47) rfl) rfl rfl
      · refine qr_bipush (n := 34) (-2) (dkX11_cellar (i := 16) rfl) rfl (by decide) ?_
        exact qr_iret (dkX11_cellar (i := 17) rfl) rfl rfl
    · refine qr_iconst (n := 21) (-1) (dkX11_cellar (i := 10) rfl) rfl (by decide) ?_
      exact qr_iret (dkX11_cellar (i := 11) rfl) rfl rfl
def tbX11_cheapest : List (Nat × Instr × Nat) := [(0, .aload_n 0, 1), (1, .iload_n 1, 1), (2, .invokevirtual 151, 3), (5, .ifCond .eq 12, 3), (8, .iload_n 2, 1), (9, .iconst 0, 1), (10, .iconst 1, 1), (11, .invokestatic 176, 3), (14, .ifCond .ne 5, 3), (17, .iconst (-1), 1), (18, .ireturn, 1), (19, .aload_n 0, 1), (20, .getfield 35, 3), (23, .getfield 196, 3), (26, .ifCond .ne 6, 3), (29, .bipush (-2), 2), (31, .ireturn, 1), (32, .aload_n 0, 1), (33, .getfield 71, 3), (36, .aload_n 0, 1), (37, .getfield 42, 3), (40, .getfield 199, 3), (43, .invokevirtual 184, 3), (46, .aload_n 0, 1), (47, .getfield 71, 3), (50, .iload_n 1, 1), (51, .invokevirtual 302, 3), (54, .istore_n 3, 1), (55, .iload_n 3, 1), (56, .ifCond .ge 6, 3), (59, .bipush (-2), 2), (61, .ireturn, 1), (62, .iload_n 2, 1), (63, .ifCond .ne 24, 3), (66, .aload_n 0, 1), (67, .getfield 35, 3), (70, .iload_n 3, 1), (71, .invokevirtual 305, 3), (74, .aload_n 0, 1), (75, .getfield 35, 3), (78, .getfield 154, 3), (81, .iload_n 1, 1), (82, .iaload, 1), (83, .imul, 1), (84, .goto 4, 3), (87, .iload_n 3, 1), (88, .ireturn, 1)]
set_option maxRecDepth 20000 in
theorem daX11_cheapest : ∀ x ∈ tbX11_cheapest, decode cX11_cheapest x.1 = .ok x.2 := by decide +kernel
theorem dkX11_cheapest {i pc n : Nat} {ins : Instr} (h : tbX11_cheapest[i]? = some (pc, ins, n)) : decode cX11_cheapest pc = .ok (ins, n) := daX11_cheapest (pc, ins, n) (List.mem_of_getElem? h)
def fX11_cheapest (S0 : qv_St) (x1 : Int32) (x2 : Int32) : Option (qv_St × Int32) :=
  (fX11_isShot S0 x1).bind fun r_1 =>
  if r_1 = 0 then
    some (S0, (-1))
  else
    (fX11_within x2 0 1).bind fun r_2 =>
    if r_2 = 0 then
      some (S0, (-1))
    else
      if (S0.1 9 1) = 0 then
        some (S0, (-2))
      else
        (fX7_face S0 (S0.1 31 1)).bind fun S_1 =>
        qv_cm (fX7_tooLoud S_1 x1) fun S_2 r_3 =>
        if 0 ≤ r_3 then
          if x2 = 0 then
            (fX5_priceOf S_2 r_3).bind fun r_4 =>
            qv_ck x1 6 <|
            some (S_2, (r_4 * (S_2.1 17 (Int32.toNatClampNeg x1))))
          else
            some (S_2, r_3)
        else
          some (S_2, (-2))
set_option maxRecDepth 20000 in
set_option maxHeartbeats 4000000 in
theorem wX11_cheapest (G : qv_GT) (S0 : qv_St) (x1 : Int32) (x2 : Int32) : ∀ r, fX11_cheapest S0 x1 x2 = some r → Cn G Lk yX11_cheapest cX11_cheapest 4 (some .int) 6 [.ref (G.2.2.1 0), .int x1, .int x2] S0 (qe_m r) := by
  refine cn_of (own := RX11) (emb := qe_m) (lv := [(0, .ref (G.2.2.1 0)), (1, .int x1), (2, .int x2)]) rfl rfl (Nat.le_of_ble_eq_true rfl) rfl (fun X => ?_)
  unfold fX11_cheapest
  refine qr_aload_n (n := 1) 0 (dkX11_cheapest (i := 0) rfl) rfl rfl ?_
  refine qr_iload_n (n := 2) 1 (dkX11_cheapest (i := 1) rfl) rfl rfl ?_
  refine qr_cvi (n := 5) 0 [.int x1] (dkX11_cheapest (i := 2) rfl) rfl kvX11_151 rfl rfl (Nat.le_of_ble_eq_true rfl) rfl rfl lkO_0 rfl (wX11_isShot G S0 x1) (fun r_1 => ?_)
  refine qr_if_eq (t := 17) (n := 8) (dkX11_cheapest (i := 3) rfl) (by decide) rfl ?_ ?_
  · refine qr_iconst (n := 18) (-1) (dkX11_cheapest (i := 9) rfl) rfl (by decide) ?_
    exact qr_iret (dkX11_cheapest (i := 10) rfl) rfl rfl
  · refine qr_iload_n (n := 9) 2 (dkX11_cheapest (i := 4) rfl) rfl rfl ?_
    refine qr_iconst (n := 10) 0 (dkX11_cheapest (i := 5) rfl) rfl (by decide) ?_
    refine qr_iconst (n := 11) 1 (dkX11_cheapest (i := 6) rfl) rfl (by decide) ?_
    refine qr_csi (n := 14) [.int x2, .int 0, .int 1] (dkX11_cheapest (i := 7) rfl) rfl kvX11_176 rfl rfl (Nat.le_of_ble_eq_true rfl) rfl rfl (wX11_within G S0 x2 0 1) (fun r_2 => ?_)
    refine qr_if_ne (t := 19) (n := 17) (dkX11_cheapest (i := 8) rfl) (by decide) rfl ?_ ?_
    · refine qr_aload_n (n := 20) 0 (dkX11_cheapest (i := 11) rfl) rfl rfl ?_
      refine qr_geta (n := 23) 0 3 9 (dkX11_cheapest (i := 12) rfl) rfl lkO_0 rfl gnX11 (Nat.le_of_ble_eq_true rfl) kfX11_35 rfl ?_
      refine qr_geti (n := 26) 9 1 (dkX11_cheapest (i := 13) rfl) rfl lkO_9 rfl gnX5 (Nat.le_of_ble_eq_true rfl) kfX11_196 rfl ?_
      refine qr_if_ne (t := 32) (n := 29) (dkX11_cheapest (i := 14) rfl) (by decide) rfl ?_ ?_
      · refine qr_aload_n (n := 33) 0 (dkX11_cheapest (i := 17) rfl) rfl rfl ?_
        refine qr_geta (n := 36) 0 9 260 (dkX11_cheapest (i := 18) rfl) rfl lkO_0 rfl gnX11 (Nat.le_of_ble_eq_true rfl) kfX11_71 rfl ?_
        refine qr_aload_n (n := 37) 0 (dkX11_cheapest (i := 19) rfl) rfl rfl ?_
        refine qr_geta (n := 40) 0 4 31 (dkX11_cheapest (i := 20) rfl) rfl lkO_0 rfl gnX11 (Nat.le_of_ble_eq_true rfl) kfX11_42 rfl ?_
        refine qr_geti (n := 43) 31 1 (dkX11_cheapest (i := 21) rfl) rfl lkO_31 rfl gnX6 (Nat.le_of_ble_eq_true rfl) kfX11_199 rfl ?_
        refine qr_cvu (n := 46) 260 [.int (S0.1 31 1)] (dkX11_cheapest (i := 22) rfl) rfl kvX11_184 rfl rfl (Nat.le_of_ble_eq_true rfl) rfl rfl lkO_260 rfl (wX7_face G S0 (S0.1 31 1)) (fun S_1 => ?_)
        refine qr_aload_n (n := 47) 0 (dkX11_cheapest (i := 23) rfl) rfl rfl ?_
        refine qr_geta (n := 50) 0 9 260 (dkX11_cheapest (i := 24) rfl) rfl lkO_0 rfl gnX11 (Nat.le_of_ble_eq_true rfl) kfX11_71 rfl ?_
        refine qr_iload_n (n := 51) 1 (dkX11_cheapest (i := 25) rfl) rfl rfl ?_
        refine qr_cvm (n := 54) 260 [.int x1] (dkX11_cheapest (i := 26) rfl) rfl kvX11_302 rfl rfl (Nat.le_of_ble_eq_true rfl) rfl rfl lkO_260 rfl (wX7_tooLoud G S_1 x1) (fun S_2 r_3 => ?_)
        refine qr_istore_n (n := 55) (lv2 := [(0, .ref (G.2.2.1 0)), (1, .int x1), (2, .int x2), (3, .int r_3)]) [1, 2, 3, 0] (dkX11_cheapest (i := 27) rfl) rfl rfl (by decide) rfl ?_
        refine qr_iload_n (n := 56) 3 (dkX11_cheapest (i := 28) rfl) rfl rfl ?_
        refine qr_if_ge (t := 62) (n := 59) (dkX11_cheapest (i := 29) rfl) (by decide) rfl ?_ ?_
        · refine qr_iload_n (n := 63) 2 (dkX11_cheapest (i := 32) rfl) rfl rfl ?_
          refine qr_if_ne (t := 87) (n := 66) (dkX11_cheapest (i := 33) rfl) (by decide) rfl ?_ ?_
          · refine qr_iload_n (n := 88) 3 (dkX11_cheapest (i := 45) rfl) rfl rfl ?_
            exact qr_iret (dkX11_cheapest (i := 46) rfl) rfl rfl
          · refine qr_aload_n (n := 67) 0 (dkX11_cheapest (i := 34) rfl) rfl rfl ?_
            refine qr_geta (n := 70) 0 3 9 (dkX11_cheapest (i := 35) rfl) rfl lkO_0 rfl gnX11 (Nat.le_of_ble_eq_true rfl) kfX11_35 rfl ?_
            refine qr_iload_n (n := 71) 3 (dkX11_cheapest (i := 36) rfl) rfl rfl ?_
            refine qr_cvi (n := 74) 9 [.int r_3] (dkX11_cheapest (i := 37) rfl) rfl kvX11_305 rfl rfl (Nat.le_of_ble_eq_true rfl) rfl rfl lkO_9 rfl (wX5_priceOf G S_2 r_3) (fun r_4 => ?_)
            refine qr_aload_n (n := 75) 0 (dkX11_cheapest (i := 38) rfl) rfl rfl ?_
            refine qr_geta (n := 78) 0 3 9 (dkX11_cheapest (i := 39) rfl) rfl lkO_0 rfl gnX11 (Nat.le_of_ble_eq_true rfl) kfX11_35 rfl ?_
            refine qr_geta (n := 81) 9 10 17 (dkX11_cheapest (i := 40) rfl) rfl lkO_9 rfl gnX5 (Nat.le_of_ble_eq_true rfl) kfX11_154 rfl ?_
            refine qr_iload_n (n := 82) 1 (dkX11_cheapest (i := 41) rfl) rfl rfl ?_
            refine qr_iald (n := 83) 17 6 (dkX11_cheapest (i := 42) rfl) rfl lkA_17 ?_
            refine qr_imul (n := 84) (dkX11_cheapest (i := 43) rfl) rfl ?_
            refine qr_goto (n := 88) (dkX11_cheapest (i := 44) rfl) (by decide) ?_
            exact qr_iret (dkX11_cheapest (i := 46) rfl) rfl rfl
        · refine qr_bipush (n := 61) (-2) (dkX11_cheapest (i := 30) rfl) rfl (by decide) ?_
          exact qr_iret (dkX11_cheapest (i := 31) rfl) rfl rfl
      · refine qr_bipush (n := 31) (-2) (dkX11_cheapest (i := 15) rfl) rfl (by decide) ?_
        exact qr_iret (dkX11_cheapest (i := 16) rfl) rfl rfl
    · refine qr_iconst (n := 18) (-1) (dkX11_cheapest (i := 9) rfl) rfl (by decide) ?_
      exact qr_iret (dkX11_cheapest (i := 10) rfl) rfl rfl
def tbX11_breakOff : List (Nat × Instr × Nat) := [(0, .aload_n 0, 1), (1, .iload_n 1, 1), (2, .invokevirtual 151, 3), (5, .ifCond .eq 14, 3), (8, .iload_n 2, 1), (9, .iconst 0, 1), (10, .sipush 300, 3), (13, .invokestatic 176, 3), (16, .ifCond .ne 5, 3), (19, .iconst (-1), 1), (20, .ireturn, 1), (21, .aload_n 0, 1), (22, .getfield 35, 3), (25, .getfield 196, 3), (28, .ifCond .ne 6, 3), (31, .bipush (-2), 2), (33, .ireturn, 1), (34, .aload_n 0, 1), (35, .getfield 71, 3), (38, .aload_n 0, 1), (39, .getfield 42, 3), (42, .getfield 199, 3), (45, .invokevirtual 184, 3), (48, .aload_n 0, 1), (49, .getfield 71, 3), (52, .iload_n 1, 1), (53, .iload_n 2, 1), (54, .iconst (-1), 1), (55, .invokevirtual 308, 3), (58, .istore_n 3, 1), (59, .iload_n 3, 1), (60, .ifCond .ge 8, 3), (63, .bipush (-2), 2), (65, .goto 4, 3), (68, .iload_n 3, 1), (69, .ireturn, 1)]
set_option maxRecDepth 20000 in
theorem daX11_breakOff : ∀ x ∈ tbX11_breakOff, decode cX11_breakOff x.1 = .ok x.2 := by decide +kernel
theorem dkX11_breakOff {i pc n : Nat} {ins : Instr} (h : tbX11_breakOff[i]? = some (pc, ins, n)) : decode cX11_breakOff pc = .ok (ins, n) := daX11_breakOff (pc, ins, n) (List.mem_of_getElem? h)
def fX11_breakOff (S0 : qv_St) (x1 : Int32) (x2 : Int32) : Option (qv_St × Int32) :=
  (fX11_isShot S0 x1).bind fun r_1 =>
  if r_1 = 0 then
    some (S0, (-1))
  else
    (fX11_within x2 0 300).bind fun r_2 =>
    if r_2 = 0 then
      some (S0, (-1))
    else
      if (S0.1 9 1) = 0 then
        some (S0, (-2))
      else
        (fX7_face S0 (S0.1 31 1)).bind fun S_1 =>
        qv_cm (fX7_firstUnclear S_1 x1 x2 (-1)) fun S_2 r_3 =>
        if 0 ≤ r_3 then
          some (S_2, r_3)
        else
          some (S_2, (-2))
set_option maxRecDepth 20000 in
set_option maxHeartbeats 4000000 in
theorem wX11_breakOff (G : qv_GT) (S0 : qv_St) (x1 : Int32) (x2 : Int32) : ∀ r, fX11_breakOff S0 x1 x2 = some r → Cn G Lk yX11_breakOff cX11_breakOff 4 (some .int) 6 [.ref (G.2.2.1 0), .int x1, .int x2] S0 (qe_m r) := by
  refine cn_of (own := RX11) (emb := qe_m) (lv := [(0, .ref (G.2.2.1 0)), (1, .int x1), (2, .int x2)]) rfl rfl (Nat.le_of_ble_eq_true rfl) rfl (fun X => ?_)
  unfold fX11_breakOff
  refine qr_aload_n (n := 1) 0 (dkX11_breakOff (i := 0) rfl) rfl rfl ?_
  refine qr_iload_n (n := 2) 1 (dkX11_breakOff (i := 1) rfl) rfl rfl ?_
  refine qr_cvi (n := 5) 0 [.int x1] (dkX11_breakOff (i := 2) rfl) rfl kvX11_151 rfl rfl (Nat.le_of_ble_eq_true rfl) rfl rfl lkO_0 rfl (wX11_isShot G S0 x1) (fun r_1 => ?_)
  refine qr_if_eq (t := 19) (n := 8) (dkX11_breakOff (i := 3) rfl) (by decide) rfl ?_ ?_
  · refine qr_iconst (n := 20) (-1) (dkX11_breakOff (i := 9) rfl) rfl (by decide) ?_
    exact qr_iret (dkX11_breakOff (i := 10) rfl) rfl rfl
  · refine qr_iload_n (n := 9) 2 (dkX11_breakOff (i := 4) rfl) rfl rfl ?_
    refine qr_iconst (n := 10) 0 (dkX11_breakOff (i := 5) rfl) rfl (by decide) ?_
    refine qr_sipush (n := 13) 300 (dkX11_breakOff (i := 6) rfl) rfl (by decide) ?_
    refine qr_csi (n := 16) [.int x2, .int 0, .int 300] (dkX11_breakOff (i := 7) rfl) rfl kvX11_176 rfl rfl (Nat.le_of_ble_eq_true rfl) rfl rfl (wX11_within G S0 x2 0 300) (fun r_2 => ?_)
    refine qr_if_ne (t := 21) (n := 19) (dkX11_breakOff (i := 8) rfl) (by decide) rfl ?_ ?_
    · refine qr_aload_n (n := 22) 0 (dkX11_breakOff (i := 11) rfl) rfl rfl ?_
      refine qr_geta (n := 25) 0 3 9 (dkX11_breakOff (i := 12) rfl) rfl lkO_0 rfl gnX11 (Nat.le_of_ble_eq_true rfl) kfX11_35 rfl ?_
      refine qr_geti (n := 28) 9 1 (dkX11_breakOff (i := 13) rfl) rfl lkO_9 rfl gnX5 (Nat.le_of_ble_eq_true rfl) kfX11_196 rfl ?_
      refine qr_if_ne (t := 34) (n := 31) (dkX11_breakOff (i := 14) rfl) (by decide) rfl ?_ ?_
      · refine qr_aload_n (n := 35) 0 (dkX11_breakOff (i := 17) rfl) rfl rfl ?_
        refine qr_geta (n := 38) 0 9 260 (dkX11_breakOff (i := 18) rfl) rfl lkO_0 rfl gnX11 (Nat.le_of_ble_eq_true rfl) kfX11_71 rfl ?_
        refine qr_aload_n (n := 39) 0 (dkX11_breakOff (i := 19) rfl) rfl rfl ?_
        refine qr_geta (n := 42) 0 4 31 (dkX11_breakOff (i := 20) rfl) rfl lkO_0 rfl gnX11 (Nat.le_of_ble_eq_true rfl) kfX11_42 rfl ?_
        refine qr_geti (n := 45) 31 1 (dkX11_breakOff (i := 21) rfl) rfl lkO_31 rfl gnX6 (Nat.le_of_ble_eq_true rfl) kfX11_199 rfl ?_
        refine qr_cvu (n := 48) 260 [.int (S0.1 31 1)] (dkX11_breakOff (i := 22) rfl) rfl kvX11_184 rfl rfl (Nat.le_of_ble_eq_true rfl) rfl rfl lkO_260 rfl (wX7_face G S0 (S0.1 31 1)) (fun S_1 => ?_)
        refine qr_aload_n (n := 49) 0 (dkX11_breakOff (i := 23) rfl) rfl rfl ?_
        refine qr_geta (n := 52) 0 9 260 (dkX11_breakOff (i := 24) rfl) rfl lkO_0 rfl gnX11 (Nat.le_of_ble_eq_true rfl) kfX11_71 rfl ?_
        refine qr_iload_n (n := 53) 1 (dkX11_breakOff (i := 25) rfl) rfl rfl ?_
        refine qr_iload_n (n := 54) 2 (dkX11_breakOff (i := 26) rfl) rfl rfl ?_
        refine qr_iconst (n := 55) (-1) (dkX11_breakOff (i := 27) rfl) rfl (by decide) ?_
        refine qr_cvm (n := 58) 260 [.int x1, .int x2, .int (-1)] (dkX11_breakOff (i := 28) rfl) rfl kvX11_308 rfl rfl (Nat.le_of_ble_eq_true rfl) rfl rfl lkO_260 rfl (wX7_firstUnclear G S_1 x1 x2 (-1)) (fun S_2 r_3 => ?_)
        refine qr_istore_n (n := 59) (lv2 := [(0, .ref (G.2.2.1 0)), (1, .int x1), (2, .int x2), (3, .int r_3)]) [1, 2, 3, 0] (dkX11_breakOff (i := 29) rfl) rfl rfl (by decide) rfl ?_
        refine qr_iload_n (n := 60) 3 (dkX11_breakOff (i := 30) rfl) rfl rfl ?_
        refine qr_if_ge (t := 68) (n := 63) (dkX11_breakOff (i := 31) rfl) (by decide) rfl ?_ ?_
        · refine qr_iload_n (n := 69) 3 (dkX11_breakOff (i := 34) rfl) rfl rfl ?_
          exact qr_iret (dkX11_breakOff (i := 35) rfl) rfl rfl
        · refine qr_bipush (n := 65) (-2) (dkX11_breakOff (i := 32) rfl) rfl (by decide) ?_
          refine qr_goto (n := 69) (dkX11_breakOff (i := 33) rfl) (by decide) ?_
          exact qr_iret (dkX11_breakOff (i := 35) rfl) rfl rfl
      · refine qr_bipush (n := 33) (-2) (dkX11_breakOff (i := 15) rfl) rfl (by decide) ?_
        exact qr_iret (dkX11_breakOff (i := 16) rfl) rfl rfl
    · refine qr_iconst (n := 20) (-1) (dkX11_breakOff (i := 9) rfl) rfl (by decide) ?_
      exact qr_iret (dkX11_breakOff (i := 10) rfl) rfl rfl
def tbX11_join : List (Nat × Instr × Nat) := [(0, .aload_n 0, 1), (1, .iload_n 1, 1), (2, .invokevirtual 151, 3), (5, .ifCond .ne 5, 3), (8, .iconst (-1), 1), (9, .ireturn, 1), (10, .aload_n 0, 1), (11, .getfield 35, 3), (14, .getfield 196, 3), (17, .ifCond .ne 6, 3), (20, .bipush (-2), 2), (22, .ireturn, 1), (23, .aload_n 0, 1), (24, .getfield 71, 3), (27, .aload_n 0, 1), (28, .getfield 42, 3), (31, .getfield 199, 3), (34, .invokevirtual 184, 3), (37, .aload_n 0, 1), (38, .getfield 35, 3), (41, .iload_n 1, 1), (42, .invokevirtual 209, 3), (45, .istore_n 2, 1), (46, .aload_n 0, 1), (47, .getfield 42, 3), (50, .getfield 160, 3), (53, .iload_n 1, 1), (54, .iaload, 1), (55, .istore_n 3, 1), (56, .iconst 0, 1), (57, .istore 4, 2), (59, .iload_n 3, 1), (60, .iload_n 2, 1), (61, .if_icmp .eq 39, 3), (64, .iload 4, 2), (66, .bipush 20, 2), (68, .if_icmp .ge 32, 3), (71, .iload_n 3, 1), (72, .aload_n 0, 1), (73, .getfield 71, 3), (76, .iload_n 1, 1), (77, .iload 4, 2), (79, .aload_n 0, 1), (80, .getfield 35, 3), (83, .getfield 154, 3), (86, .iload_n 1, 1), (87, .iaload, 1), (88, .imul, 1), (89, .invokevirtual 202, 3), (92, .ior, 1), (93, .istore_n 3, 1), (94, .iinc 4 1, 3), (97, .goto (-38), 3), (100, .iload_n 3, 1), (101, .iload_n 2, 1), (102, .if_icmp .ne 8, 3), (105, .iload 4, 2), (107, .goto 5, 3), (110, .bipush (-2), 2), (112, .ireturn, 1)]
set_option maxRecDepth 20000 in
theorem daX11_join : ∀ x ∈ tbX11_join, decode cX11_join x.1 = .ok x.2 := by decide +kernel
theorem dkX11_join {i pc n : Nat} {ins : Instr} (h : tbX11_join[i]? = some (pc, ins, n)) : decode cX11_join pc = .ok (ins, n) := daX11_join (pc, ins, n) (List.mem_of_getElem? h)
def fX11_join (S0 : qv_St) (x1 : Int32) : Option (qv_St × Int32) :=
  (fX11_isShot S0 x1).bind fun r_1 =>
  if r_1 = 0 then
    some (S0, (-1))
  else
    if (S0.1 9 1) = 0 then
      some (S0, (-2))
    else
      (fX7_face S0 (S0.1 31 1)).bind fun S_1 =>
      (fX5_allSeconds S_1 x1).bind fun r_2 =>
      qv_ck x1 6 <|
      qv_b ((S_1.1 33 (Int32.toNatClampNeg x1)) : Int32) fun x3_1 =>
      qv_j (fun (S_2 : qv_St) (x3_2 : Int32) (x4_1 : Int32) =>
        if x3_2 = r_2 then
          some (S_2, x4_1)
        else
          some (S_2, (-2))) fun K_1 =>
      qv_lp3 qv_N (fun self_1 (S_3 : qv_St) (x3_3 : Int32) (x4_2 : Int32) =>
        if x3_3 = r_2 then
          K_1 S_3 x3_3 x4_2
        else
          if 20 ≤ x4_2 then
            K_1 S_3 x3_3 x4_2
          else
            qv_ck x1 6 <|
            qv_cm (fX7_clearSeconds S_3 x1 (x4_2 * (S_3.1 17 (Int32.toNatClampNeg x1)))) fun S_4 r_3 =>
            qv_b ((x3_3 ||| r_3) : Int32) fun x3_4 =>
            self_1 S_4 x3_4 (x4_2 + 1)) S_1 x3_1 0
set_option maxRecDepth 20000 in
set_option maxHeartbeats 4000000 in
theorem wX11_join (G : qv_GT) (S0 : qv_St) (x1 : Int32) : ∀ r, fX11_join S0 x1 = some r → Cn G Lk yX11_join cX11_join 5 (some .int) 7 [.ref (G.2.2.1 0), .int x1] S0 (qe_m r) := by
  refine cn_of (own := RX11) (emb := qe_m) (lv := [(0, .ref (G.2.2.1 0)), (1, .int x1)]) rfl rfl (Nat.le_of_ble_eq_true rfl) rfl (fun X => ?_)
  unfold fX11_join
  refine qr_aload_n (n := 1) 0 (dkX11_join (i := 0) rfl) rfl rfl ?_
  refine qr_iload_n (n := 2) 1 (dkX11_join (i := 1) rfl) rfl rfl ?_
  refine qr_cvi (n := 5) 0 [.int x1] (dkX11_join (i := 2) rfl) rfl kvX11_151 rfl rfl (Nat.le_of_ble_eq_true rfl) rfl rfl lkO_0 rfl (wX11_isShot G S0 x1) (fun r_1 => ?_)
  refine qr_if_ne (t := 10) (n := 8) (dkX11_join (i := 3) rfl) (by decide) rfl ?_ ?_
  · refine qr_aload_n (n := 11) 0 (dkX11_join (i := 6) rfl) rfl rfl ?_
    refine qr_geta (n := 14) 0 3 9 (dkX11_join (i := 7) rfl) rfl lkO_0 rfl gnX11 (Nat.le_of_ble_eq_true rfl) kfX11_35 rfl ?_
    refine qr_geti (n := 17) 9 1 (dkX11_join (i := 8) rfl) rfl lkO_9 rfl gnX5 (Nat.le_of_ble_eq_true rfl) kfX11_196 rfl ?_
    refine qr_if_ne (t := 23) (n := 20) (dkX11_join (i := 9) rfl) (by decide) rfl ?_ ?_
    · refine qr_aload_n (n := 24) 0 (dkX11_join (i := 12) rfl) rfl rfl ?_
      refine qr_geta (n := 27) 0 9 260 (dkX11_join (i := 13) rfl) rfl lkO_0 rfl gnX11 (Nat.le_of_ble_eq_true rfl) kfX11_71 rfl ?_
      refine qr_aload_n (n := 28) 0 (dkX11_join (i := 14) rfl) rfl rfl ?_
      refine qr_geta (n := 31) 0 4 31 (dkX11_join (i := 15) rfl) rfl lkO_0 rfl gnX11 (Nat.le_of_ble_eq_true rfl) kfX11_42 rfl ?_
      refine qr_geti (n := 34) 31 1 (dkX11_join (i := 16) rfl) rfl lkO_31 rfl gnX6 (Nat.le_of_ble_eq_true rfl) kfX11_199 rfl ?_
      refine qr_cvu (n := 37) 260 [.int (S0.1 31 1)] (dkX11_join (i := 17) rfl) rfl kvX11_184 rfl rfl (Nat.le_of_ble_eq_true rfl) rfl rfl lkO_260 rfl (wX7_face G S0 (S0.1 31 1)) (fun S_1 => ?_)
      refine qr_aload_n (n := 38) 0 (dkX11_join (i := 18) rfl) rfl rfl ?_
      refine qr_geta (n := 41) 0 3 9 (dkX11_join (i := 19) rfl) rfl lkO_0 rfl gnX11 (Nat.le_of_ble_eq_true rfl) kfX11_35 rfl ?_
      refine qr_iload_n (n := 42) 1 (dkX11_join (i := 20) rfl) rfl rfl ?_
      refine qr_cvi (n := 45) 9 [.int x1] (dkX11_join (i := 21) rfl) rfl kvX11_209 rfl rfl (Nat.le_of_ble_eq_true rfl) rfl rfl lkO_9 rfl (wX5_allSeconds G S_1 x1) (fun r_2 => ?_)
      refine qr_istore_n (n := 46) (lv2 := [(0, .ref (G.2.2.1 0)), (1, .int x1), (2, .int r_2)]) [1, 2, 0] (dkX11_join (i := 22) rfl) rfl rfl (by decide) rfl ?_
      refine qr_aload_n (n := 47) 0 (dkX11_join (i := 23) rfl) rfl rfl ?_
      refine qr_geta (n := 50) 0 4 31 (dkX11_join (i := 24) rfl) rfl lkO_0 rfl gnX11 (Nat.le_of_ble_eq_true rfl) kfX11_42 rfl ?_
      refine qr_geta (n := 53) 31 5 33 (dkX11_join (i := 25) rfl) rfl lkO_31 rfl gnX6 (Nat.le_of_ble_eq_true rfl) kfX11_160 rfl ?_
      refine qr_iload_n (n := 54) 1 (dkX11_join (i := 26) rfl) rfl rfl ?_
      refine qr_iald (n := 55) 33 6 (dkX11_join (i := 27) rfl) rfl lkA_33 ?_
      refine qr_b (α := Int32) (S_1.1 33 (Int32.toNatClampNeg x1)) (lvf := fun _ => [(0, .ref (G.2.2.1 0)), (1, .int x1), (2, .int r_2)]) (stf := fun z => .int z :: []) (Sf := fun _ => S_1) (fun x3_1 => ?_)
      refine qr_istore_n (n := 56) (lv2 := [(0, .ref (G.2.2.1 0)), (1, .int x1), (2, .int r_2), (3, .int x3_1)]) [1, 2, 3, 0] (dkX11_join (i := 28) rfl) rfl rfl (by decide) rfl ?_
      refine qr_iconst (n := 57) 0 (dkX11_join (i := 29) rfl) rfl (by decide) ?_
      refine qr_istore (n := 59) (lv2 := [(0, .ref (G.2.2.1 0)), (1, .int x1), (2, .int r_2), (3, .int x3_1), (4, .int 0)]) [1, 2, 3, 4, 0] (dkX11_join (i := 30) rfl) rfl (by decide) rfl ?_
      refine qr_j (fun K_1 : qv_St → Int32 → Int32 → Option (qv_St × Int32) => ∀ (S_2 : qv_St) (x3_2 : Int32) (x4_1 : Int32), VV G Lk X RX11 cX11_join 5 (some .int) 7 qe_m 100 [(2, .int r_2), (3, .int x3_2), (4, .int x4_1)] [] S_2 (K_1 S_2 x3_2 x4_1)) (fun S_2 x3_2 x4_1 => ?_) (fun K_1 hK_1 => ?_)
      · refine qr_iload_n (n := 101) 1 (dkX11_join (i := 53) rfl) rfl rfl ?_
        refine qr_iload_n (n := 102) 0 (dkX11_join (i := 54) rfl) rfl rfl ?_
        refine qr_icmp_ne (t := 110) (n := 105) (dkX11_join (i := 55) rfl) (by decide) rfl ?_ ?_
        · refine qr_bipush (n := 112) (-2) (dkX11_join (i := 58) rfl) rfl (by decide) ?_
          exact qr_iret (dkX11_join (i := 59) rfl) rfl rfl
        · refine qr_iload (n := 107) 2 (dkX11_join (i := 56) rfl) rfl rfl ?_
          refine qr_goto (n := 112) (dkX11_join (i := 57) rfl) (by decide) ?_
          exact qr_iret (dkX11_join (i := 59) rfl) rfl rfl
      · refine qr_lp3 (fun (S_3 : qv_St) (x3_3 : Int32) (x4_2 : Int32) => [(0, .ref (G.2.2.1 0)), (1, .int x1), (2, .int r_2), (3, .int x3_3), (4, .int x4_2)]) (fun (S_3 : qv_St) (x3_3 : Int32) (x4_2 : Int32) => S_3) (fun self_1 hself_1 S_3 x3_3 x4_2 => ?_) qv_N S_1 x3_1 0
        refine qr_iload_n (n := 60) 3 (dkX11_join (i := 31) rfl) rfl rfl ?_
        refine qr_iload_n (n := 61) 2 (dkX11_join (i := 32) rfl) rfl rfl ?_
        refine qr_icmp_eq (t := 100) (n := 64) (dkX11_join (i := 33) rfl) (by decide) rfl ?_ ?_
        · refine qr_sub [2, 3, 4] rfl ?_
          exact hK_1 S_3 x3_3 x4_2
        · refine qr_iload (n := 66) 4 (dkX11_join (i := 34) rfl) rfl rfl ?_
          refine qr_bipush (n := 68) 20 (dkX11_join (i := 35) rfl) rfl (by decide) ?_
          refine qr_icmp_ge (t := 100) (n := 71) (dkX11_join (i := 36) rfl) (by decide) rfl ?_ ?_
          · refine qr_sub [2, 3, 4] rfl ?_
            exact hK_1 S_3 x3_3 x4_2
          · refine qr_iload_n (n := 72) 3 (dkX11_join (i := 37) rfl) rfl rfl ?_
            refine qr_aload_n (n := 73) 0 (dkX11_join (i := 38) rfl) rfl rfl ?_
            refine qr_geta (n := 76) 0 9 260 (dkX11_join (i := 39) rfl) rfl lkO_0 rfl gnX11 (Nat.le_of_ble_eq_true rfl) kfX11_71 rfl ?_
            refine qr_iload_n (n := 77) 1 (dkX11_join (i := 40) rfl) rfl rfl ?_
            refine qr_iload (n := 79) 4 (dkX11_join (i := 41) rfl) rfl rfl ?_
            refine qr_aload_n (n := 80) 0 (dkX11_join (i := 42) rfl) rfl rfl ?_
            refine qr_geta (n := 83) 0 3 9 (dkX11_join (i := 43) rfl) rfl lkO_0 rfl gnX11 (Nat.le_of_ble_eq_true rfl) kfX11_35 rfl ?_
            refine qr_geta (n := 86) 9 10 17 (dkX11_join (i := 44) rfl) rfl lkO_9 rfl gnX5 (Nat.le_of_ble_eq_true rfl) kfX11_154 rfl ?_
            refine qr_iload_n (n := 87) 1 (dkX11_join (i := 45) rfl) rfl rfl ?_
            refine qr_iald (n := 88) 17 6 (dkX11_join (i := 46) rfl) rfl lkA_17 ?_
            refine qr_imul (n := 89) (dkX11_join (i := 47) rfl) rfl ?_
            refine qr_cvm (n := 92) 260 [.int x1, .int (x4_2 * (S_3.1 17 (Int32.toNatClampNeg x1)))] (dkX11_join (i := 48) rfl) rfl kvX11_202 rfl rfl (Nat.le_of_ble_eq_true rfl) rfl rfl lkO_260 rfl (wX7_clearSeconds G S_3 x1 (x4_2 * (S_3.1 17 (Int32.toNatClampNeg x1)))) (fun S_4 r_3 => ?_)
            refine qr_ior (n := 93) (dkX11_join (i := 49) rfl) rfl ?_
            refine qr_b (α := Int32) (x3_3 ||| r_3) (lvf := fun _ => [(0, .ref (G.2.2.1 0)), (1, .int x1), (2, .int r_2), (3, .int x3_3), (4, .int x4_2)]) (stf := fun z => .int z :: []) (Sf := fun _ => S_4) (fun x3_4 => ?_)
            refine qr_istore_n (n := 94) (lv2 := [(0, .ref (G.2.2.1 0)), (1, .int x1), (2, .int r_2), (3, .int x3_4), (4, .int x4_2)]) [1, 2, 3, 0, 4] (dkX11_join (i := 50) rfl) rfl rfl (by decide) rfl ?_
            refine qr_iinc (n := 97) (v := 1) (lv2 := [(0, .ref (G.2.2.1 0)), (1, .int x1), (2, .int r_2), (3, .int x3_4), (4, .int (x4_2 + 1))]) 4 [1, 2, 3, 4, 0] (dkX11_join (i := 51) rfl) rfl rfl (by decide) (by decide) rfl ?_
            refine qr_goto (n := 59) (dkX11_join (i := 52) rfl) (by decide) ?_
            exact hself_1 S_4 x3_4 (x4_2 + 1)
    · refine qr_bipush (n := 22) (-2) (dkX11_join (i := 10) rfl) rfl (by decide) ?_
      exact qr_iret (dkX11_join (i := 11) rfl) rfl rfl
  · refine qr_iconst (n := 9) (-1) (dkX11_join (i := 4) rfl) rfl (by decide) ?_
    exact qr_iret (dkX11_join (i := 5) rfl) rfl rfl
def tbX11_odds : List (Nat × Instr × Nat) := [(0, .aload_n 0, 1), (1, .iload_n 1, 1), (2, .invokevirtual 151, 3), (5, .ifCond .eq 24, 3), (8, .iload_n 2, 1), (9, .iconst 0, 1), (10, .sipush 300, 3), (13, .invokestatic 176, 3), (16, .ifCond .eq 13, 3), (19, .iload_n 3, 1), (20, .iconst 1, 1), (21, .bipush 20, 2), (23, .invokestatic 176, 3), (26, .ifCond .ne 5, 3), (29, .iconst (-1), 1), (30, .ireturn, 1), (31, .aload_n 0, 1), (32, .getfield 35, 3), (35, .getfield 196, 3), (38, .ifCond .ne 5, 3), (41, .iconst 0, 1), (42, .ireturn, 1), (43, .iconst 0, 1), (44, .istore 4, 2), (46, .iconst 0, 1), (47, .istore 5, 2), (49, .iload 5, 2), (51, .iload_n 3, 1), (52, .if_icmp .ge 63, 3), (55, .aload_n 0, 1), (56, .getfield 62, 3), (59, .aload_n 0, 1), (60, .getfield 35, 3), (63, .getfield 311, 3), (66, .iload 5, 2), (68, .iadd, 1), (69, .invokevirtual 314, 3), (72, .aload_n 0, 1), (73, .getfield 71, 3), (76, .invokevirtual 240, 3), (79, .aload_n 0, 1), (80, .getfield 71, 3), (83, .aload_n 0, 1), (84, .getfield 42, 3), (87, .getfield 199, 3), (90, .invokevirtual 184, 3), (93, .aload_n 0, 1), (94, .getfield 71, 3), (97, .iload_n 1, 1), (98, .iload_n 2, 1), (99, .iconst (-1), 1), (100, .invokevirtual 308, 3), (103, .ifCond .ge 6, 3), (106, .iinc 4 1, 3), (109, .iinc 5 1, 3), (112, .goto (-63), 3), (115, .aload_n 0, 1), (116, .getfield 62, 3), (119, .aload_n 0, 1), (120, .getfield 35, 3), (123, .getfield 311, 3), (126, .invokevirtual 314, 3), (129, .aload_n 0, 1), (130, .getfield 71, 3), (133, .invokevirtual 240, 3), (136, .iload 4, 2), (138, .ireturn, 1)]
set_option maxRecDepth 20000 in
theorem daX11_odds : ∀ x ∈ tbX11_odds, decode cX11_odds x.1 = .ok x.2 := by decide +kernel
theorem dkX11_odds {i pc n : Nat} {ins : Instr} (h : tbX11_odds[i]? = some (pc, ins, n)) : decode cX11_odds pc = .ok (ins, n) := daX11_odds (pc, ins, n) (List.mem_of_getElem? h)
def fX11_odds (S0 : qv_St) (x1 : Int32) (x2 : Int32) (x3 : Int32) : Option (qv_St × Int32) :=
  (fX11_isShot S0 x1).bind fun r_1 =>
  if r_1 = 0 then
    some (S0, (-1))
  else
    (fX11_within x2 0 300).bind fun r_2 =>
    if r_2 = 0 then
      some (S0, (-1))
    else
      (fX11_within x3 1 20).bind fun r_3 =>
      if r_3 = 0 then
        some (S0, (-1))
      else
        if (S0.1 9 1) = 0 then
          some (S0, 0)
        else
          qv_j (fun (S_1 : qv_St) (x4_1 : Int32) =>
            (fX0_tune S_1 (S_1.1 9 17)).bind fun S_2 =>
            (fX7_drop S_2).bind fun S_3 =>
            some (S_3, x4_1)) fun K_1 =>
          qv_lp3 qv_N (fun self_1 (S_4 : qv_St) (x4_2 : Int32) (x5_1 : Int32) =>
            if x3 ≤ x5_1 then
              K_1 S_4 x4_2
            else
              (fX0_tune S_4 ((S_4.1 9 17) + x5_1)).bind fun S_5 =>
              (fX7_drop S_5).bind fun S_6 =>
              (fX7_face S_6 (S_6.1 31 1)).bind fun S_7 =>
              qv_cm (fX7_firstUnclear S_7 x1 x2 (-1)) fun S_8 r_4 =>
              qv_j (fun (x4_3 : Int32) =>
                self_1 S_8 x4_3 (x5_1 + 1)) fun K_2 =>
              if 0 ≤ r_4 then
                K_2 x4_2
              else
                K_2 (x4_2 + 1)) S0 0 0
set_option maxRecDepth 20000 in
set_option maxHeartbeats 4000000 in
theorem wX11_odds (G : qv_GT) (S0 : qv_St) (x1 : Int32) (x2 : Int32) (x3 : Int32) : ∀ r, fX11_odds S0 x1 x2 x3 = some r → Cn G Lk yX11_odds cX11_odds 6 (some .int) 6 [.ref (G.2.2.1 0), .int x1, .int x2, .int x3] S0 (qe_m r) := by
  refine cn_of (own := RX11) (emb := qe_m) (lv := [(0, .ref (G.2.2.1 0)), (1, .int x1), (2, .int x2), (3, .int x3)]) rfl rfl (Nat.le_of_ble_eq_true rfl) rfl (fun X => ?_)
  unfold fX11_odds
  refine qr_aload_n (n := 1) 0 (dkX11_odds (i := 0) rfl) rfl rfl ?_
  refine qr_iload_n (n := 2) 1 (dkX11_odds (i := 1) rfl) rfl rfl ?_
  refine qr_cvi (n := 5) 0 [.int x1] (dkX11_odds (i := 2) rfl) rfl kvX11_151 rfl rfl (Nat.le_of_ble_eq_true rfl) rfl rfl lkO_0 rfl (wX11_isShot G S0 x1) (fun r_1 => ?_)
  refine qr_if_eq (t := 29) (n := 8) (dkX11_odds (i := 3) rfl) (by decide) rfl ?_ ?_
  · refine qr_iconst (n := 30) (-1) (dkX11_odds (i := 14) rfl) rfl (by decide) ?_
    exact qr_iret (dkX11_odds (i := 15) rfl) rfl rfl
  · refine qr_iload_n (n := 9) 2 (dkX11_odds (i := 4) rfl) rfl rfl ?_
    refine qr_iconst (n := 10) 0 (dkX11_odds (i := 5) rfl) rfl (by decide) ?_
    refine qr_sipush (n := 13) 300 (dkX11_odds (i := 6) rfl) rfl (by decide) ?_
    refine qr_csi (n := 16) [.int x2, .int 0, .int 300] (dkX11_odds (i := 7) rfl) rfl kvX11_176 rfl rfl (Nat.le_of_ble_eq_true rfl) rfl rfl (wX11_within G S0 x2 0 300) (fun r_2 => ?_)
    refine qr_if_eq (t := 29) (n := 19) (dkX11_odds (i := 8) rfl) (by decide) rfl ?_ ?_
    · refine qr_iconst (n := 30) (-1) (dkX11_odds (i := 14) rfl) rfl (by decide) ?_
      exact qr_iret (dkX11_odds (i := 15) rfl) rfl rfl
    · refine qr_iload_n (n := 20) 3 (dkX11_odds (i := 9) rfl) rfl rfl ?_
      refine qr_iconst (n := 21) 1 (dkX11_odds (i := 10) rfl) rfl (by decide) ?_
      refine qr_bipush (n := 23) 20 (dkX11_odds (i := 11) rfl) rfl (by decide) ?_
      refine qr_csi (n := 26) [.int x3, .int 1, .int 20] (dkX11_odds (i := 12) rfl) rfl kvX11_176 rfl rfl (Nat.le_of_ble_eq_true rfl) rfl rfl (wX11_within G S0 x3 1 20) (fun r_3 => ?_)
      refine qr_if_ne (t := 31) (n := 29) (dkX11_odds (i := 13) rfl) (by decide) rfl ?_ ?_
      · refine qr_aload_n (n := 32) 0 (dkX11_odds (i := 16) rfl) rfl rfl ?_
        refine qr_geta (n := 35) 0 3 9 (dkX11_odds (i := 17) rfl) rfl lkO_0 rfl gnX11 (Nat.le_of_ble_eq_true rfl) kfX11_35 rfl ?_
        refine qr_geti (n := 38) 9 1 (dkX11_odds (i := 18) rfl) rfl lkO_9 rfl gnX5 (Nat.le_of_ble_eq_true rfl) kfX11_196 rfl ?_
        refine qr_if_ne (t := 43) (n := 41) (dkX11_odds (i := 19) rfl) (by decide) rfl ?_ ?_
        · refine qr_iconst (n := 44) 0 (dkX11_odds (i := 22) rfl) rfl (by decide) ?_
          refine qr_istore (n := 46) (lv2 := [(0, .ref (G.2.2.1 0)), (1, .int x1), (2, .int x2), (3, .int x3), (4, .int 0)]) [1, 2, 3, 4, 0] (dkX11_odds (i := 23) rfl) rfl (by decide) rfl ?_
          refine qr_iconst (n := 47) 0 (dkX11_odds (i := 24) rfl) rfl (by decide) ?_
          refine qr_istore (n := 49) (lv2 := [(0, .ref (G.2.2.1 0)), (1, .int x1), (2, .int x2), (3, .int x3), (4, .int 0), (5, .int 0)]) [1, 2, 3, 4, 5, 0] (dkX11_odds (i := 25) rfl) rfl (by decide) rfl ?_
          refine qr_j (fun K_1 : qv_St → Int32 → Option (qv_St × Int32) => ∀ (S_1 : qv_St) (x4_1 : Int32), VV G Lk X RX11 cX11_odds 6 (some .int) 6 qe_m 115 [(0, .ref (G.2.2.1 0)), (4, .int x4_1)] [] S_1 (K_1 S_1 x4_1)) (fun S_1 x4_1 => ?_) (fun K_1 hK_1 => ?_)
          · refine qr_aload_n (n := 116) 0 (dkX11_odds (i := 56) rfl) rfl rfl ?_
            refine qr_geta (n := 119) 0 8 254 (dkX11_odds (i := 57) rfl) rfl lkO_0 rfl gnX11 (Nat.le_of_ble_eq_true rfl) kfX11_62 rfl ?_
            refine qr_aload_n (n := 120) 0 (dkX11_odds (i := 58) rfl) rfl rfl ?_
            refine qr_geta (n := 123) 0 3 9 (dkX11_odds (i := 59) rfl) rfl lkO_0 rfl gnX11 (Nat.le_of_ble_eq_true rfl) kfX11_35 rfl ?_
            refine qr_geti (n := 126) 9 17 (dkX11_odds (i := 60) rfl) rfl lkO_9 rfl gnX5 (Nat.le_of_ble_eq_true rfl) kfX11_311 rfl ?_
            refine qr_cvu (n := 129) 254 [.int (S_1.1 9 17)] (dkX11_odds (i := 61) rfl) rfl kvX11_314 rfl rfl (Nat.le_of_ble_eq_true rfl) rfl rfl lkO_254 rfl (wX0_tune G S_1 (S_1.1 9 17)) (fun S_2 => ?_)
            refine qr_aload_n (n := 130) 0 (dkX11_odds (i := 62) rfl) rfl rfl ?_
            refine qr_geta (n := 133) 0 9 260 (dkX11_odds (i := 63) rfl) rfl lkO_0 rfl gnX11 (Nat.le_of_ble_eq_true rfl) kfX11_71 rfl ?_
            refine qr_cvu (n := 136) 260 [] (dkX11_odds (i := 64) rfl) rfl kvX11_240 rfl rfl (Nat.le_of_ble_eq_true rfl) rfl rfl lkO_260 rfl (wX7_drop G S_2) (fun S_3 => ?_)
            refine qr_iload (n := 138) 1 (dkX11_odds (i := 65) rfl) rfl rfl ?_
            exact qr_iret (dkX11_odds (i := 66) rfl) rfl rfl
          · refine qr_lp3 (fun (S_4 : qv_St) (x4_2 : Int32) (x5_1 : Int32) => [(0, .ref (G.2.2.1 0)), (1, .int x1), (2, .int x2), (3, .int x3), (4, .int x4_2), (5, .int x5_1)]) (fun (S_4 : qv_St) (x4_2 : Int32) (x5_1 : Int32) => S_4) (fun self_1 hself_1 S_4 x4_2 x5_1 => ?_) qv_N S0 0 0
            refine qr_iload (n := 51) 5 (dkX11_odds (i := 26) rfl) rfl rfl ?_
            refine qr_iload_n (n := 52) 3 (dkX11_odds (i := 27) rfl) rfl rfl ?_
            refine qr_icmp_ge (t := 115) (n := 55) (dkX11_odds (i := 28) rfl) (by decide) rfl ?_ ?_
            · refine qr_sub [0, 4] rfl ?_
              exact hK_1 S_4 x4_2
            · refine qr_aload_n (n := 56) 0 (dkX11_odds (i := 29) rfl) rfl rfl ?_
              refine qr_geta (n := 59) 0 8 254 (dkX11_odds (i := 30) rfl) rfl lkO_0 rfl gnX11 (Nat.le_of_ble_eq_true rfl) kfX11_62 rfl ?_
              refine qr_aload_n (n := 60) 0 (dkX11_odds (i := 31) rfl) rfl rfl ?_
              refine qr_geta (n := 63) 0 3 9 (dkX11_odds (i := 32) rfl) rfl lkO_0 rfl gnX11 (Nat.le_of_ble_eq_true rfl) kfX11_35 rfl ?_
              refine qr_geti (n := 66) 9 17 (dkX11_odds (i := 33) rfl) rfl lkO_9 rfl gnX5 (Nat.le_of_ble_eq_true rfl) kfX11_311 rfl ?_
              refine qr_iload (n := 68) 5 (dkX11_odds (i := 34) rfl) rfl rfl ?_
              refine qr_iadd (n := 69) (dkX11_odds (i := 35) rfl) rfl ?_
              refine qr_cvu (n := 72) 254 [.int ((S_4.1 9 17) + x5_1)] (dkX11_odds (i := 36) rfl) rfl kvX11_314 rfl rfl (Nat.le_of_ble_eq_true rfl) rfl rfl lkO_254 rfl (wX0_tune G S_4 ((S_4.1 9 17) + x5_1)) (fun S_5 => ?_)
              refine qr_aload_n (n := 73) 0 (dkX11_odds (i := 37) rfl) rfl rfl ?_
              refine qr_geta (n := 76) 0 9 260 (dkX11_odds (i := 38) rfl) rfl lkO_0 rfl gnX11 (Nat.le_of_ble_eq_true rfl) kfX11_71 rfl ?_
              refine qr_cvu (n := 79) 260 [] (dkX11_odds (i := 39) rfl) rfl kvX11_240 rfl rfl (Nat.le_of_ble_eq_true rfl) rfl rfl lkO_260 rfl (wX7_drop G S_5) (fun S_6 => ?_)
              refine qr_aload_n (n := 80) 0 (dkX11_odds (i := 40) rfl) rfl rfl ?_
              refine qr_geta (n := 83) 0 9 260 (dkX11_odds (i := 41) rfl) rfl lkO_0 rfl gnX11 (Nat.le_of_ble_eq_true rfl) kfX11_71 rfl ?_
              refine qr_aload_n (n := 84) 0 (dkX11_odds (i := 42) rfl) rfl rfl ?_
              refine qr_geta (n := 87) 0 4 31 (dkX11_odds (i := 43) rfl) rfl lkO_0 rfl gnX11 (Nat.le_of_ble_eq_true rfl) kfX11_42 rfl ?_
              refine qr_geti (n := 90) 31 1 (dkX11_odds (i := 44) rfl) rfl lkO_31 rfl gnX6 (Nat.le_of_ble_eq_true rfl) kfX11_199 rfl ?_
              refine qr_cvu (n := 93) 260 [.int (S_6.1 31 1)] (dkX11_odds (i := 45) rfl) rfl kvX11_184 rfl rfl (Nat.le_of_ble_eq_true rfl) rfl rfl lkO_260 rfl (wX7_face G S_6 (S_6.1 31 1)) (fun S_7 => ?_)
              refine qr_aload_n (n := 94) 0 (dkX11_odds (i := 46) rfl) rfl rfl ?_
              refine qr_geta (n := 97) 0 9 260 (dkX11_odds (i := 47) rfl) rfl lkO_0 rfl gnX11 (Nat.le_of_ble_eq_true rfl) kfX11_71 rfl ?_
              refine qr_iload_n (n := 98) 1 (dkX11_odds (i := 48) rfl) rfl rfl ?_
              refine qr_iload_n (n := 99) 2 (dkX11_odds (i := 49) rfl) rfl rfl ?_
              refine qr_iconst (n := 100) (-1) (dkX11_odds (i := 50) rfl) rfl (by decide) ?_
              refine qr_cvm (n := 103) 260 [.int x1, .int x2, .int (-1)] (dkX11_odds (i := 51) rfl) rfl kvX11_308 rfl rfl (Nat.le_of_ble_eq_true rfl) rfl rfl lkO_260 rfl (wX7_firstUnclear G S_7 x1 x2 (-1)) (fun S_8 r_4 => ?_)
              refine qr_j (fun K_2 : Int32 → Option (qv_St × Int32) => ∀ (x4_3 : Int32), VV G Lk X RX11 cX11_odds 6 (some .int) 6 qe_m 109 [(0, .ref (G.2.2.1 0)), (1, .int x1), (2, .int x2), (3, .int x3), (4, .int x4_3), (5, .int x5_1)] [] S_8 (K_2 x4_3)) (fun x4_3 => ?_) (fun K_2 hK_2 => ?_)
              · refine qr_iinc (n := 112) (v := 1) (lv2 := [(0, .ref (G.2.2.1 0)), (1, .int x1), (2, .int x2), (3, .int x3), (4, .int x4_3), (5, .int (x5_1 + 1))]) 5 [1, 2, 3, 4, 5, 0] (dkX11_odds (i := 54) rfl) rfl rfl (by decide) (by decide) rfl ?_
                refine qr_goto (n := 49) (dkX11_odds (i := 55) rfl) (by decide) ?_
                exact hself_1 S_8 x4_3 (x5_1 + 1)
              · refine qr_if_ge (t := 109) (n := 106) (dkX11_odds (i := 52) rfl) (by decide) rfl ?_ ?_
                · exact hK_2 x4_2
                · refine qr_iinc (n := 109) (v := 1) (lv2 := [(0, .ref (G.2.2.1 0)), (1, .int x1), (2, .int x2), (3, .int x3), (4, .int (x4_2 + 1)), (5, .int x5_1)]) 4 [1, 2, 3, 4, 0, 5] (dkX11_odds (i := 53) rfl) rfl rfl (by decide) (by decide) rfl ?_
                  exact hK_2 (x4_2 + 1)
        · refine qr_iconst (n := 42) 0 (dkX11_odds (i := 20) rfl) rfl (by decide) ?_
          exact qr_iret (dkX11_odds (i := 21) rfl) rfl rfl
      · refine qr_iconst (n := 30) (-1) (dkX11_odds (i := 14) rfl) rfl (by decide) ?_
        exact qr_iret (dkX11_odds (i := 15) rfl) rfl rfl
