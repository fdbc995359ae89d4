def tbX12_rests : List (Nat × Instr × Nat) := [(0, .iload_n 1, 1), (1, .iconst 1, 1), (2, .sipush 300, 3), (5, .invokestatic 319, 3), (8, .ifCond .ne 5, 3), (11, .iconst (-1), 1), (12, .ireturn, 1), (13, .aload_n 0, 1), (14, .invokevirtual 384, 3), (17, .aload_n 0, 1), (18, .getfield 128, 3), (21, .iconst 0, 1), (22, .dup2, 1), (23, .iaload, 1), (24, .iload_n 1, 1), (25, .iadd, 1), (26, .iastore, 1), (27, .aload_n 0, 1), (28, .getfield 128, 3), (31, .iconst 2, 1), (32, .iconst 0, 1), (33, .iastore, 1), (34, .aload_n 0, 1), (35, .invokevirtual 402, 3), (38, .aload_n 0, 1), (39, .getfield 125, 3), (42, .iconst 0, 1), (43, .iaload, 1), (44, .ireturn, 1)]
set_option maxRecDepth 20000 in
theorem daX12_rests : ∀ x ∈ tbX12_rests, decode cX12_rests x.1 = .ok x.2 := by decide +kernel
theorem dkX12_rests {i pc n : Nat} {ins : Instr} (h : tbX12_rests[i]? = some (pc, ins, n)) : decode cX12_rests pc = .ok (ins, n) := daX12_rests (pc, ins, n) (List.mem_of_getElem? h)
def fX12_rests (S0 : qv_St) (x1 : Int32) : Option (qv_St × Int32) :=
  (fX12_in x1 1 300).bind fun r_1 =>
  if r_1 = 0 then
    some (S0, (-1))
  else
    (fX12_copies S0).bind fun S_1 =>
    qv_ck 0 32 <|
    qv_ck 0 32 <| qv_b (qv_si S_1 37 (Int32.toNatClampNeg 0) ((S_1.1 37 (Int32.toNatClampNeg 0)) + x1)) fun S_2 =>
    qv_ck 2 32 <| qv_b (qv_si S_2 37 (Int32.toNatClampNeg 2) 0) fun S_3 =>
    (fX12_keeps S_3).bind fun S_4 =>
    qv_ck 0 32 <|
    some (S_4, (S_4.1 36 (Int32.toNatClampNeg 0)))
set_option maxRecDepth 20000 in
set_option maxHeartbeats 4000000 in
theorem wX12_rests (G : qv_GT) (S0 : qv_St) (x1 : Int32) : ∀ r, fX12_rests S0 x1 = some r → Cn G Lm yX12_rests cX12_rests 2 (some .int) 3 [.ref (G.2.2.1 0), .int x1] S0 (qe_m r) := by
  refine cn_of (own := RX12) (emb := qe_m) (lv := [(0, .ref (G.2.2.1 0)), (1, .int x1)]) rfl rfl (Nat.le_of_ble_eq_true rfl) rfl (fun X => ?_)
  unfold fX12_rests
  refine qr_iload_n (n := 1) 1 (dkX12_rests (i := 0) rfl) rfl rfl ?_
  refine qr_iconst (n := 2) 1 (dkX12_rests (i := 1) rfl) rfl (by decide) ?_
  refine qr_sipush (n := 5) 300 (dkX12_rests (i := 2) rfl) rfl (by decide) ?_
  refine qr_csi (n := 8) [.int x1, .int 1, .int 300] (dkX12_rests (i := 3) rfl) rfl kvX12_319 rfl rfl (Nat.le_of_ble_eq_true rfl) rfl rfl (wX12_in G S0 x1 1 300) (fun r_1 => ?_)
  refine qr_if_ne (t := 13) (n := 11) (dkX12_rests (i := 4) rfl) (by decide) rfl ?_ ?_
  · refine qr_aload_n (n := 14) 0 (dkX12_rests (i := 7) rfl) rfl rfl ?_
    refine qr_cvu (n := 17) 0 [] (dkX12_rests (i := 8) rfl) rfl kvX12_384 rfl rfl (Nat.le_of_ble_eq_true rfl) rfl rfl lmO rfl (wX12_copies G S0) (fun S_1 => ?_)
    refine qr_aload_n (n := 18) 0 (dkX12_rests (i := 9) rfl) rfl rfl ?_
    refine qr_geta (n := 21) 0 54 37 (dkX12_rests (i := 10) rfl) rfl lmO rfl gnX12 (Nat.le_of_ble_eq_true rfl) kfX12_128 rfl ?_
    refine qr_iconst (n := 22) 0 (dkX12_rests (i := 11) rfl) rfl (by decide) ?_
    refine qr_dup2 (n := 23) (dkX12_rests (i := 12) rfl) rfl rfl rfl ?_
    refine qr_iald (n := 24) 37 32 (dkX12_rests (i := 13) rfl) rfl lmA_37 ?_
    refine qr_iload_n (n := 25) 1 (dkX12_rests (i := 14) rfl) rfl rfl ?_
    refine qr_iadd (n := 26) (dkX12_rests (i := 15) rfl) rfl ?_
    refine qr_iast (n := 27) 37 32 (dkX12_rests (i := 16) rfl) rfl lmA_37 (fun S_2 => ?_)
    refine qr_aload_n (n := 28) 0 (dkX12_rests (i := 17) rfl) rfl rfl ?_
    refine qr_geta (n := 31) 0 54 37 (dkX12_rests (i := 18) rfl) rfl lmO rfl gnX12 (Nat.le_of_ble_eq_true rfl) kfX12_128 rfl ?_
    refine qr_iconst (n := 32) 2 (dkX12_rests (i := 19) rfl) rfl (by decide) ?_
    refine qr_iconst (n := 33) 0 (dkX12_rests (i := 20) rfl) rfl (by decide) ?_
    refine qr_iast (n := 34) 37 32 (dkX12_rests (i := 21) rfl) rfl lmA_37 (fun S_3 => ?_)
    refine qr_aload_n (n := 35) 0 (dkX12_rests (i := 22) rfl) rfl rfl ?_
    refine qr_cvu (n := 38) 0 [] (dkX12_rests (i := 23) rfl) rfl kvX12_402 rfl rfl (Nat.le_of_ble_eq_true rfl) rfl rfl lmO rfl (wX12_keeps G S_3) (fun S_4 => ?_)
    refine qr_aload_n (n := 39) 0 (dkX12_rests (i := 24) rfl) rfl rfl ?_
    refine qr_geta (n := 42) 0 53 36 (dkX12_rests (i := 25) rfl) rfl lmO rfl gnX12 (Nat.le_of_ble_eq_true rfl) kfX12_125 rfl ?_
    refine qr_iconst (n := 43) 0 (dkX12_rests (i := 26) rfl) rfl (by decide) ?_
    refine qr_iald (n := 44) 36 32 (dkX12_rests (i := 27) rfl) rfl lmA_36 ?_
    exact qr_iret (dkX12_rests (i := 28) rfl) rfl rfl
  · refine qr_iconst (n := 12) (-1) (dkX12_rests (i := 5) rfl) rfl (by decide) ?_
    exact qr_iret (dkX12_rests (i := 6) rfl) rfl rfl
def tbX12_moves : List (Nat × Instr × Nat) := [(0, .aload_n 0, 1), (1, .iload_n 1, 1), (2, .invokevirtual 393, 3), (5, .ifCond .ne 5, 3), (8, .iconst (-1), 1), (9, .ireturn, 1), (10, .aload_n 0, 1), (11, .getfield 125, 3), (14, .iconst 1, 1), (15, .iaload, 1), (16, .iload_n 1, 1), (17, .if_icmp .ne 6, 3), (20, .bipush (-2), 2), (22, .ireturn, 1), (23, .aload_n 0, 1), (24, .invokevirtual 384, 3), (27, .aload_n 0, 1), (28, .getfield 128, 3), (31, .iconst 1, 1), (32, .iload_n 1, 1), (33, .iastore, 1), (34, .aload_n 0, 1), (35, .aload_n 0, 1), (36, .getfield 80, 3), (39, .aload_n 0, 1), (40, .getfield 242, 3), (43, .iaload, 1), (44, .invokevirtual 399, 3), (47, .aload_n 0, 1), (48, .invokevirtual 402, 3), (51, .aload_n 0, 1), (52, .getfield 125, 3), (55, .iconst 0, 1), (56, .iaload, 1), (57, .ireturn, 1)]
set_option maxRecDepth 20000 in
theorem daX12_moves : ∀ x ∈ tbX12_moves, decode cX12_moves x.1 = .ok x.2 := by decide +kernel
theorem dkX12_moves {i pc n : Nat} {ins : Instr} (h : tbX12_moves[i]? = some (pc, ins, n)) : decode cX12_moves pc = .ok (ins, n) := daX12_moves (pc, ins, n) (List.mem_of_getElem? h)
def fX12_moves (S0 : qv_St) (x1 : Int32) : Option (qv_St × Int32) :=
  (fX12_isPlace S0 x1).bind fun r_1 =>
  if r_1 = 0 then
    some (S0, (-1))
  else
    qv_ck 1 32 <|
    if (S0.1 36 (Int32.toNatClampNeg 1)) = x1 then
      some (S0, (-2))
    else
      (fX12_copies S0).bind fun S_1 =>
      qv_ck 1 32 <| qv_b (qv_si S_1 37 (Int32.toNatClampNeg 1) x1) fun S_2 =>
      qv_ck (S_2.1 0 18) 2 <|
      (fX12_stands S_2 (S_2.1 21 (Int32.toNatClampNeg (S_2.1 0 18)))).bind fun S_3 =>
      (fX12_keeps S_3).bind fun S_4 =>
      qv_ck 0 32 <|
      some (S_4, (S_4.1 36 (Int32.toNatClampNeg 0)))
set_option maxRecDepth 20000 in
set_option maxHeartbeats 4000000 in
theorem wX12_moves (G : qv_GT) (S0 : qv_St) (x1 : Int32) : ∀ r, fX12_moves S0 x1 = some r → Cn G Lm yX12_moves cX12_moves 2 (some .int) 3 [.ref (G.2.2.1 0), .int x1] S0 (qe_m r) := by
  refine cn_of (own := RX12) (emb := qe_m) (lv := [(0, .ref (G.2.2.1 0)), (1, .int x1)]) rfl rfl (Nat.le_of_ble_eq_true rfl) rfl (fun X => ?_)
  unfold fX12_moves
  refine qr_aload_n (n := 1) 0 (dkX12_moves (i := 0) rfl) rfl rfl ?_
  refine qr_iload_n (n := 2) 1 (dkX12_moves (i := 1) rfl) rfl rfl ?_
  refine qr_cvi (n := 5) 0 [.int x1] (dkX12_moves (i := 2) rfl) rfl kvX12_393 rfl rfl (Nat.le_of_ble_eq_true rfl) rfl rfl lmO rfl (wX12_isPlace G S0 x1) (fun r_1 => ?_)
  refine qr_if_ne (t := 10) (n := 8) (dkX12_moves (i := 3) rfl) (by decide) rfl ?_ ?_
  · refine qr_aload_n (n := 11) 0 (dkX12_moves (i := 6) rfl) rfl rfl ?_
    refine qr_geta (n := 14) 0 53 36 (dkX12_moves (i := 7) rfl) rfl lmO rfl gnX12 (Nat.le_of_ble_eq_true rfl) kfX12_125 rfl ?_
    refine qr_iconst (n := 15) 1 (dkX12_moves (i := 8) rfl) rfl (by decide) ?_
    refine qr_iald (n := 16) 36 32 (dkX12_moves (i := 9) rfl) rfl lmA_36 ?_
    refine qr_iload_n (n := 17) 1 (dkX12_moves (i := 10) rfl) rfl rfl ?_
    refine qr_icmp_ne (t := 23) (n := 20) (dkX12_moves (i := 11) rfl) (by decide) rfl ?_ ?_
    · refine qr_aload_n (n := 24) 0 (dkX12_moves (i := 14) rfl) rfl rfl ?_
      refine qr_cvu (n := 27) 0 [] (dkX12_moves (i := 15) rfl) rfl kvX12_384 rfl rfl (Nat.le_of_ble_eq_true rfl) rfl rfl lmO rfl (wX12_copies G S0) (fun S_1 => ?_)
      refine qr_aload_n (n := 28) 0 (dkX12_moves (i := 16) rfl) rfl rfl ?_
      refine qr_geta (n := 31) 0 54 37 (dkX12_moves (i := 17) rfl) rfl lmO rfl gnX12 (Nat.le_of_ble_eq_true rfl) kfX12_128 rfl ?_
      refine qr_iconst (n := 32) 1 (dkX12_moves (i := 18) rfl) rfl (by decide) ?_
      refine qr_iload_n (n := 33) 1 (dkX12_moves (i := 19) rfl) rfl rfl ?_
      refine qr_iast (n := 34) 37 32 (dkX12_moves (i := 20) rfl) rfl lmA_37 (fun S_2 => ?_)
      refine qr_aload_n (n := 35) 0 (dkX12_moves (i := 21) rfl) rfl rfl ?_
      refine qr_aload_n (n := 36) 0 (dkX12_moves (i := 22) rfl) rfl rfl ?_
      refine qr_geta (n := 39) 0 34 21 (dkX12_moves (i := 23) rfl) rfl lmO rfl gnX12 (Nat.le_of_ble_eq_true rfl) kfX12_80 rfl ?_
      refine qr_aload_n (n := 40) 0 (dkX12_moves (i := 24) rfl) rfl rfl ?_
      refine qr_geti (n := 43) 0 18 (dkX12_moves (i := 25) rfl) rfl lmO rfl gnX12 (Nat.le_of_ble_eq_true rfl) kfX12_242 rfl ?_
      refine qr_iald (n := 44) 21 2 (dkX12_moves (i := 26) rfl) rfl lmA_21 ?_
      refine qr_cvu (n := 47) 0 [.int (S_2.1 21 (Int32.toNatClampNeg (S_2.1 0 18)))] (dkX12_moves (i := 27) rfl) rfl kvX12_399 rfl rfl (Nat.le_of_ble_eq_true rfl) rfl rfl lmO rfl (wX12_stands G S_2 (S_2.1 21 (Int32.toNatClampNeg (S_2.1 0 18)))) (fun S_3 => ?_)
      refine qr_aload_n (n := 48) 0 (dkX12_moves (i := 28) rfl) rfl rfl ?_
      refine qr_cvu (n := 51) 0 [] (dkX12_moves (i := 29) rfl) rfl kvX12_402 rfl rfl (Nat.le_of_ble_eq_true rfl) rfl rfl lmO rfl (wX12_keeps G S_3) (fun S_4 => ?_)
      refine qr_aload_n (n := 52) 0 (dkX12_moves (i := 30) rfl) rfl rfl ?_
      refine qr_geta (n := 55) 0 53 36 (dkX12_moves (i := 31) rfl) rfl lmO rfl gnX12 (Nat.le_of_ble_eq_true rfl) kfX12_125 rfl ?_
      refine qr_iconst (n := 56) 0 (dkX12_moves (i := 32) rfl) rfl (by decide) ?_
      refine qr_iald (n := 57) 36 32 (dkX12_moves (i := 33) rfl) rfl lmA_36 ?_
      exact qr_iret (dkX12_moves (i := 34) rfl) rfl rfl
    · refine qr_bipush (n := 22) (-2) (dkX12_moves (i := 12) rfl) rfl (by decide) ?_
      exact qr_iret (dkX12_moves (i := 13) rfl) rfl rfl
  · refine qr_iconst (n := 9) (-1) (dkX12_moves (i := 4) rfl) rfl (by decide) ?_
    exact qr_iret (dkX12_moves (i := 5) rfl) rfl rfl
def tbX12_pays : List (Nat × Instr × Nat) := [(0, .aload_n 0, 1), (1, .getfield 128, 3), (4, .iconst 4, 1), (5, .iload_n 1, 1), (6, .iadd, 1), (7, .iaload, 1), (8, .aload_n 0, 1), (9, .getfield 128, 3), (12, .iconst 0, 1), (13, .iaload, 1), (14, .if_icmp .ge 17, 3), (17, .aload_n 0, 1), (18, .getfield 128, 3), (21, .iconst 4, 1), (22, .iload_n 1, 1), (23, .iadd, 1), (24, .aload_n 0, 1), (25, .getfield 128, 3), (28, .iconst 0, 1), (29, .iaload, 1), (30, .iastore, 1), (31, .aload_n 0, 1), (32, .getfield 128, 3), (35, .iconst 4, 1), (36, .iload_n 1, 1), (37, .iadd, 1), (38, .dup2, 1), (39, .iaload, 1), (40, .iload_n 2, 1), (41, .iadd, 1), (42, .iastore, 1), (43, .return_, 1)]
set_option maxRecDepth 20000 in
theorem daX12_pays : ∀ x ∈ tbX12_pays, decode cX12_pays x.1 = .ok x.2 := by decide +kernel
theorem dkX12_pays {i pc n : Nat} {ins : Instr} (h : tbX12_pays[i]? = some (pc, ins, n)) : decode cX12_pays pc = .ok (ins, n) := daX12_pays (pc, ins, n) (List.mem_of_getElem? h)
def fX12_pays (S0 : qv_St) (x1 : Int32) (x2 : Int32) : Option qv_St :=
  qv_ck (4 + x1) 32 <|
  qv_ck 0 32 <|
  qv_j (fun (S_1 : qv_St) =>
    qv_ck (4 + x1) 32 <|
    qv_ck (4 + x1) 32 <| qv_b (qv_si S_1 37 (Int32.toNatClampNeg (4 + x1)) ((S_1.1 37 (Int32.toNatClampNeg (4 + x1))) + x2)) fun S_2 =>
    some S_2) fun K_1 =>
  if (S0.1 37 (Int32.toNatClampNeg 0)) ≤ (S0.1 37 (Int32.toNatClampNeg (4 + x1))) then
    K_1 S0
  else
    qv_ck 0 32 <|
    qv_ck (4 + x1) 32 <| qv_b (qv_si S0 37 (Int32.toNatClampNeg (4 + x1)) (S0.1 37 (Int32.toNatClampNeg 0))) fun S_3 =>
    K_1 S_3
set_option maxRecDepth 20000 in
set_option maxHeartbeats 4000000 in
theorem wX12_pays (G : qv_GT) (S0 : qv_St) (x1 : Int32) (x2 : Int32) : ∀ r, fX12_pays S0 x1 x2 = some r → Cn G Lm yX12_pays cX12_pays 3 none 1 [.ref (G.2.2.1 0), .int x1, .int x2] S0 (qe_u r) := by
  refine cn_of (own := RX12) (emb := qe_u) (lv := [(0, .ref (G.2.2.1 0)), (1, .int x1), (2, .int x2)]) rfl rfl (Nat.le_of_ble_eq_true rfl) rfl (fun X => ?_)
  unfold fX12_pays
  refine qr_aload_n (n := 1) 0 (dkX12_pays (i := 0) rfl) rfl rfl ?_
  refine qr_geta (n := 4) 0 54 37 (dkX12_pays (i := 1) rfl) rfl lmO rfl gnX12 (Nat.le_of_ble_eq_true rfl) kfX12_128 rfl ?_
  refine qr_iconst (n := 5) 4 (dkX12_pays (i := 2) rfl) rfl (by decide) ?_
  refine qr_iload_n (n := 6) 1 (dkX12_pays (i := 3) rfl) rfl rfl ?_
  refine qr_iadd (n := 7) (dkX12_pays (i := 4) rfl) rfl ?_
  refine qr_iald (n := 8) 37 32 (dkX12_pays (i := 5) rfl) rfl lmA_37 ?_
  refine qr_aload_n (n := 9) 0 (dkX12_pays (i := 6) rfl) rfl rfl ?_
  refine qr_geta (n := 12) 0 54 37 (dkX12_pays (i := 7) rfl) rfl lmO rfl gnX12 (Nat.le_of_ble_eq_true rfl) kfX12_128 rfl ?_
  refine qr_iconst (n := 13) 0 (dkX12_pays (i := 8) rfl) rfl (by decide) ?_
  refine qr_iald (n := 14) 37 32 (dkX12_pays (i := 9) rfl) rfl lmA_37 ?_
  refine qr_j (fun K_1 : qv_St → Option qv_St => ∀ (S_1 : qv_St), VV G Lm X RX12 cX12_pays 3 none 1 qe_u 31 [(0, .ref (G.2.2.1 0)), (1, .int x1), (2, .int x2)] [] S_1 (K_1 S_1)) (fun S_1 => ?_) (fun K_1 hK_1 => ?_)
  · refine qr_aload_n (n := 32) 0 (dkX12_pays (i := 21) rfl) rfl rfl ?_
    refine qr_geta (n := 35) 0 54 37 (dkX12_pays (i := 22) rfl) rfl lmO rfl gnX12 (Nat.le_of_ble_eq_true rfl) kfX12_128 rfl ?_
    refine qr_iconst (n := 36) 4 (dkX12_pays (i := 23) rfl) rfl (by decide) ?_
    refine qr_iload_n (n := 37) 1 (dkX12_pays (i := 24) rfl) rfl rfl ?_
    refine qr_iadd (n := 38) (dkX12_pays (i := 25) rfl) rfl ?_
    refine qr_dup2 (n := 39) (dkX12_pays (i := 26) rfl) rfl rfl rfl ?_
    refine qr_iald (n := 40) 37 32 (dkX12_pays (i := 27) rfl) rfl lmA_37 ?_
    refine qr_iload_n (n := 41) 2 (dkX12_pays (i := 28) rfl) rfl rfl ?_
    refine qr_iadd (n := 42) (dkX12_pays (i := 29) rfl) rfl ?_
    refine qr_iast (n := 43) 37 32 (dkX12_pays (i := 30) rfl) rfl lmA_37 (fun S_2 => ?_)
    exact qr_vret (dkX12_pays (i := 31) rfl) rfl rfl
  · refine qr_icmp_ge (t := 31) (n := 17) (dkX12_pays (i := 10) rfl) (by decide) rfl ?_ ?_
    · exact hK_1 S0
    · refine qr_aload_n (n := 18) 0 (dkX12_pays (i := 11) rfl) rfl rfl ?_
      refine qr_geta (n := 21) 0 54 37 (dkX12_pays (i := 12) rfl) rfl lmO rfl gnX12 (Nat.le_of_ble_eq_true rfl) kfX12_128 rfl ?_
      refine qr_iconst (n := 22) 4 (dkX12_pays (i := 13) rfl) rfl (by decide) ?_
      refine qr_iload_n (n := 23) 1 (dkX12_pays (i := 14) rfl) rfl rfl ?_
      refine qr_iadd (n := 24) (dkX12_pays (i := 15) rfl) rfl ?_
      refine qr_aload_n (n := 25) 0 (dkX12_pays (i := 16) rfl) rfl rfl ?_
      refine qr_geta (n := 28) 0 54 37 (dkX12_pays (i := 17) rfl) rfl lmO rfl gnX12 (Nat.le_of_ble_eq_true rfl) kfX12_128 rfl ?_
      refine qr_iconst (n := 29) 0 (dkX12_pays (i := 18) rfl) rfl (by decide) ?_
      refine qr_iald (n := 30) 37 32 (dkX12_pays (i := 19) rfl) rfl lmA_37 ?_
      refine qr_iast (n := 31) 37 32 (dkX12_pays (i := 20) rfl) rfl lmA_37 (fun S_3 => ?_)
      exact hK_1 S_3
def tbX12_pay : List (Nat × Instr × Nat) := [(0, .aload_n 0, 1), (1, .iload_n 1, 1), (2, .invokevirtual 381, 3), (5, .ifCond .eq 14, 3), (8, .iload_n 2, 1), (9, .iconst 1, 1), (10, .sipush 300, 3), (13, .invokestatic 319, 3), (16, .ifCond .ne 5, 3), (19, .iconst (-1), 1), (20, .ireturn, 1), (21, .iload_n 2, 1), (22, .aload_n 0, 1), (23, .getfield 62, 3), (26, .bipush 8, 2), (28, .aload_n 0, 1), (29, .getfield 242, 3), (32, .imul, 1), (33, .iload_n 1, 1), (34, .iadd, 1), (35, .iaload, 1), (36, .imul, 1), (37, .istore_n 3, 1), (38, .iload_n 3, 1), (39, .aload_n 0, 1), (40, .getfield 125, 3), (43, .iconst 3, 1), (44, .iaload, 1), (45, .if_icmp .le 6, 3), (48, .bipush (-2), 2), (50, .ireturn, 1), (51, .aload_n 0, 1), (52, .invokevirtual 384, 3), (55, .aload_n 0, 1), (56, .getfield 128, 3), (59, .iconst 3, 1), (60, .dup2, 1), (61, .iaload, 1), (62, .iload_n 3, 1), (63, .isub, 1), (64, .iastore, 1), (65, .aload_n 0, 1), (66, .iload_n 1, 1), (67, .iload_n 2, 1), (68, .invokevirtual 405, 3), (71, .aload_n 0, 1), (72, .invokevirtual 402, 3), (75, .aload_n 0, 1), (76, .getfield 125, 3), (79, .iconst 3, 1), (80, .iaload, 1), (81, .ireturn, 1)]
set_option maxRecDepth 20000 in
theorem daX12_pay : ∀ x ∈ tbX12_pay, decode cX12_pay x.1 = .ok x.2 := by decide +kernel
theorem dkX12_pay {i pc n : Nat} {ins : Instr} (h : tbX12_pay[i]? = some (pc, ins, n)) : decode cX12_pay pc = .ok (ins, n) := daX12_pay (pc, ins, n) (List.mem_of_getElem? h)
def fX12_pay (S0 : qv_St) (x1 : Int32) (x2 : Int32) : Option (qv_St × Int32) :=
  (fX12_isNoise S0 x1).bind fun r_1 =>
  if r_1 = 0 then
    some (S0, (-1))
  else
    (fX12_in x2 1 300).bind fun r_2 =>
    if r_2 = 0 then
      some (S0, (-1))
    else
      qv_ck ((8 * (S0.1 0 18)) + x1) 16 <|
      qv_b ((x2 * (S0.1 15 (Int32.toNatClampNeg ((8 * (S0.1 0 18)) + x1)))) : Int32) fun x3_1 =>
      qv_ck 3 32 <|
      if x3_1 ≤ (S0.1 36 (Int32.toNatClampNeg 3)) then
        (fX12_copies S0).bind fun S_1 =>
        qv_ck 3 32 <|
        qv_ck 3 32 <| qv_b (qv_si S_1 37 (Int32.toNatClampNeg 3) ((S_1.1 37 (Int32.toNatClampNeg 3)) - x3_1)) fun S_2 =>
        (fX12_pays S_2 x1 x2).bind fun S_3 =>
        (fX12_keeps S_3).bind fun S_4 =>
        qv_ck 3 32 <|
        some (S_4, (S_4.1 36 (Int32.toNatClampNeg 3)))
      else
        some (S0, (-2))
set_option maxRecDepth 20000 in
set_option maxHeartbeats 4000000 in
theorem wX12_pay (G : qv_GT) (S0 : qv_St) (x1 : Int32) (x2 : Int32) : ∀ r, fX12_pay S0 x1 x2 = some r → Cn G Lm yX12_pay cX12_pay 4 (some .int) 3 [.ref (G.2.2.1 0), .int x1, .int x2] S0 (qe_m r) := by
  refine cn_of (own := RX12) (emb := qe_m) (lv := [(0, .ref (G.2.2.1 0)), (1, .int x1), (2, .int x2)]) rfl rfl (Nat.le_of_ble_eq_true rfl) rfl (fun X => ?_)
  unfold fX12_pay
  refine qr_aload_n (n := 1) 0 (dkX12_pay (i := 0) rfl) rfl rfl ?_
  refine qr_iload_n (n := 2) 1 (dkX12_pay (i := 1) rfl) rfl rfl ?_
  refine qr_cvi (n := 5) 0 [.int x1] (dkX12_pay (i := 2) rfl) rfl kvX12_381 rfl rfl (Nat.le_of_ble_eq_true rfl) rfl rfl lmO rfl (wX12_isNoise G S0 x1) (fun r_1 => ?_)
  refine qr_if_eq (t := 19) (n := 8) (dkX12_pay (i := 3) rfl) (by decide) rfl ?_ ?_
  · refine qr_iconst (n := 20) (-1) (dkX12_pay (i := 9) rfl) rfl (by decide) ?_
    exact qr_iret (dkX12_pay (i := 10) rfl) rfl rfl
  · refine qr_iload_n (n := 9) 2 (dkX12_pay (i := 4) rfl) rfl rfl ?_
    refine qr_iconst (n := 10) 1 (dkX12_pay (i := 5) rfl) rfl (by decide) ?_
    refine qr_sipush (n := 13) 300 (dkX12_pay (i := 6) rfl) rfl (by decide) ?_
    refine qr_csi (n := 16) [.int x2, .int 1, .int 300] (dkX12_pay (i := 7) rfl) rfl kvX12_319 rfl rfl (Nat.le_of_ble_eq_true rfl) rfl rfl (wX12_in G S0 x2 1 300) (fun r_2 => ?_)
    refine qr_if_ne (t := 21) (n := 19) (dkX12_pay (i := 8) rfl) (by decide) rfl ?_ ?_
    · refine qr_iload_n (n := 22) 2 (dkX12_pay (i := 11) rfl) rfl rfl ?_
      refine qr_aload_n (n := 23) 0 (dkX12_pay (i := 12) rfl) rfl rfl ?_
      refine qr_geta (n := 26) 0 28 15 (dkX12_pay (i := 13) rfl) rfl lmO rfl gnX12 (Nat.le_of_ble_eq_true rfl) kfX12_62 rfl ?_
      refine qr_bipush (n := 28) 8 (dkX12_pay (i := 14) rfl) rfl (by decide) ?_
      refine qr_aload_n (n := 29) 0 (dkX12_pay (i := 15) rfl) rfl rfl ?_
      refine qr_geti (n := 32) 0 18 (dkX12_pay (i := 16) rfl) rfl lmO rfl gnX12 (Nat.le_of_ble_eq_true rfl) kfX12_242 rfl ?_
      refine qr_imul (n := 33) (dkX12_pay (i := 17) rfl) rfl ?_
      refine qr_iload_n (n := 34) 1 (dkX12_pay (i := 18) rfl) rfl rfl ?_
      refine qr_iadd (n := 35) (dkX12_pay (i := 19) rfl) rfl ?_
      refine qr_iald (n := 36) 15 16 (dkX12_pay (i := 20) rfl) rfl lmA_15 ?_
      refine qr_imul (n := 37) (dkX12_pay (i := 21) rfl) rfl ?_
      refine qr_b (α := Int32) (x2 * (S0.1 15 (Int32.toNatClampNeg ((8 * (S0.1 0 18)) + x1)))) (lvf := fun _ => [(0, .ref (G.2.2.1 0)), (1, .int x1), (2, .int x2)]) (stf := fun z => .int z :: []) (Sf := fun _ => S0) (fun x3_1 => ?_)
      refine qr_istore_n (n := 38) (lv2 := [(0, .ref (G.2.2.1 0)), (1, .int x1), (2, .int x2), (3, .int x3_1)]) [1, 2, 3, 0] (dkX12_pay (i := 22) rfl) rfl rfl (by decide) rfl ?_
      refine qr_iload_n (n := 39) 3 (dkX12_pay (i := 23) rfl) rfl rfl ?_
      refine qr_aload_n (n := 40) 0 (dkX12_pay (i := 24) rfl) rfl rfl ?_
      refine qr_geta (n := 43) 0 53 36 (dkX12_pay (i := 25) rfl) rfl lmO rfl gnX12 (Nat.le_of_ble_eq_true rfl) kfX12_125 rfl ?_
      refine qr_iconst (n := 44) 3 (dkX12_pay (i := 26) rfl) rfl (by decide) ?_
      refine qr_iald (n := 45) 36 32 (dkX12_pay (i := 27) rfl) rfl lmA_36 ?_
      refine qr_icmp_le (t := 51) (n := 48) (dkX12_pay (i := 28) rfl) (by decide) rfl ?_ ?_
      · refine qr_aload_n (n := 52) 0 (dkX12_pay (i := 31) rfl) rfl rfl ?_
        refine qr_cvu (n := 55) 0 [] (dkX12_pay (i := 32) rfl) rfl kvX12_384 rfl rfl (Nat.le_of_ble_eq_true rfl) rfl rfl lmO rfl (wX12_copies G S0) (fun S_1 => ?_)
        refine qr_aload_n (n := 56) 0 (dkX12_pay (i := 33) rfl) rfl rfl ?_
        refine qr_geta (n := 59) 0 54 37 (dkX12_pay (i := 34) rfl) rfl lmO rfl gnX12 (Nat.le_of_ble_eq_true rfl) kfX12_128 rfl ?_
        refine qr_iconst (n := 60) 3 (dkX12_pay (i := 35) rfl) rfl (by decide) ?_
        refine qr_dup2 (n := 61) (dkX12_pay (i := 36) rfl) rfl rfl rfl ?_
        refine qr_iald (n := 62) 37 32 (dkX12_pay (i := 37) rfl) rfl lmA_37 ?_
        refine qr_iload_n (n := 63) 3 (dkX12_pay (i := 38) rfl) rfl rfl ?_
        refine qr_isub (n := 64) (dkX12_pay (i := 39) rfl) rfl ?_
        refine qr_iast (n := 65) 37 32 (dkX12_pay (i := 40) rfl) rfl lmA_37 (fun S_2 => ?_)
        refine qr_aload_n (n := 66) 0 (dkX12_pay (i := 41) rfl) rfl rfl ?_
        refine qr_iload_n (n := 67) 1 (dkX12_pay (i := 42) rfl) rfl rfl ?_
        refine qr_iload_n (n := 68) 2 (dkX12_pay (i := 43) rfl) rfl rfl ?_
        refine qr_cvu (n := 71) 0 [.int x1, .int x2] (dkX12_pay (i := 44) rfl) rfl kvX12_405 rfl rfl (Nat.le_of_ble_eq_true rfl) rfl rfl lmO rfl (wX12_pays G S_2 x1 x2) (fun S_3 => ?_)
        refine qr_aload_n (n := 72) 0 (dkX12_pay (i := 45) rfl) rfl rfl ?_
        refine qr_cvu (n := 75) 0 [] (dkX12_pay (i := 46) rfl) rfl kvX12_402 rfl rfl (Nat.le_of_ble_eq_true rfl) rfl rfl lmO rfl (wX12_keeps G S_3) (fun S_4 => ?_)
        refine qr_aload_n (n := 76) 0 (dkX12_pay (i := 47) rfl) rfl rfl ?_
        refine qr_geta (n := 79) 0 53 36 (dkX12_pay (i := 48) rfl) rfl lmO rfl gnX12 (Nat.le_of_ble_eq_true rfl) kfX12_125 rfl ?_
        refine qr_iconst (n := 80) 3 (dkX12_pay (i := 49) rfl) rfl (by decide) ?_
        refine qr_iald (n := 81) 36 32 (dkX12_pay (i := 50) rfl) rfl lmA_36 ?_
        exact qr_iret (dkX12_pay (i := 51) rfl) rfl rfl
      · refine qr_bipush (n := 50) (-2) (dkX12_pay (i := 29) rfl) rfl (by decide) ?_
        exact qr_iret (dkX12_pay (i := 30) rfl) rfl rfl
    · refine qr_iconst (n := 20) (-1) (dkX12_pay (i := 9) rfl) rfl (by decide) ?_
      exact qr_iret (dkX12_pay (i := 10) rfl) rfl rfl
def tbX12_undo : List (Nat × Instr × Nat) := [(0, .aload_n 0, 1), (1, .getfield 260, 3), (4, .ifCond .ne 5, 3), (7, .iconst 0, 1), (8, .ireturn, 1), (9, .aload_n 0, 1), (10, .dup, 1), (11, .getfield 260, 3), (14, .iconst 1, 1), (15, .isub, 1), (16, .putfield 260, 3), (19, .iconst 0, 1), (20, .istore_n 1, 1), (21, .iload_n 1, 1), (22, .bipush 32, 2), (24, .if_icmp .ge 29, 3), (27, .aload_n 0, 1), (28, .getfield 125, 3), (31, .iload_n 1, 1), (32, .aload_n 0, 1), (33, .getfield 134, 3), (36, .bipush 32, 2), (38, .aload_n 0, 1), (39, .getfield 260, 3), (42, .imul, 1), (43, .iload_n 1, 1), (44, .iadd, 1), (45, .iaload, 1), (46, .iastore, 1), (47, .iinc 1 1, 3), (50, .goto (-29), 3), (53, .iconst 1, 1), (54, .ireturn, 1)]
set_option maxRecDepth 20000 in
theorem daX12_undo : ∀ x ∈ tbX12_undo, decode cX12_undo x.1 = .ok x.2 := by decide +kernel
theorem dkX12_undo {i pc n : Nat} {ins : Instr} (h : tbX12_undo[i]? = some (pc, ins, n)) : decode cX12_undo pc = .ok (ins, n) := daX12_undo (pc, ins, n) (List.mem_of_getElem? h)
def fX12_undo (S0 : qv_St) : Option (qv_St × Int32) :=
  if (S0.1 0 57) = 0 then
    some (S0, 0)
  else
    qv_b (qv_si S0 0 57 ((S0.1 0 57) - 1)) fun S_1 =>
    qv_lp2 qv_N (fun self_1 (S_2 : qv_St) (x1_1 : Int32) =>
      if 32 ≤ x1_1 then
        some (S_2, 1)
      else
        qv_ck ((32 * (S_2.1 0 57)) + x1_1) 1280 <|
        qv_ck x1_1 32 <| qv_b (qv_si S_2 36 (Int32.toNatClampNeg x1_1) (S_2.1 39 (Int32.toNatClampNeg ((32 * (S_2.1 0 57)) + x1_1)))) fun S_3 =>
        self_1 S_3 (x1_1 + 1)) S_1 0
set_option maxRecDepth 20000 in
set_option maxHeartbeats 4000000 in
theorem wX12_undo (G : qv_GT) (S0 : qv_St) : ∀ r, fX12_undo S0 = some r → Cn G Lm yX12_undo cX12_undo 2 (some .boolean) 1 [.ref (G.2.2.1 0)] S0 (qe_m r) := by
  refine cn_of (own := RX12) (emb := qe_m) (lv := [(0, .ref (G.2.2.1 0))]) rfl rfl (Nat.le_of_ble_eq_true rfl) rfl (fun X => ?_)
  unfold fX12_undo
  refine qr_aload_n (n := 1) 0 (dkX12_undo (i := 0) rfl) rfl rfl ?_
  refine qr_geti (n := 4) 0 57 (dkX12_undo (i := 1) rfl) rfl lmO rfl gnX12 (Nat.le_of_ble_eq_true rfl) kfX12_260 rfl ?_
  refine qr_if_ne (t := 9) (n := 7) (dkX12_undo (i := 2) rfl) (by decide) rfl ?_ ?_
  · refine qr_aload_n (n := 10) 0 (dkX12_undo (i := 5) rfl) rfl rfl ?_
    refine qr_dup (n := 11) (dkX12_undo (i := 6) rfl) rfl rfl ?_
    refine qr_geti (n := 14) 0 57 (dkX12_undo (i := 7) rfl) rfl lmO rfl gnX12 (Nat.le_of_ble_eq_true rfl) kfX12_260 rfl ?_
    refine qr_iconst (n := 15) 1 (dkX12_undo (i := 8) rfl) rfl (by decide) ?_
    refine qr_isub (n := 16) (dkX12_undo (i := 9) rfl) rfl ?_
    refine qr_puti (n := 19) 0 57 (dkX12_undo (i := 10) rfl) rfl lmO rfl gnX12 (Nat.le_of_ble_eq_true rfl) kfX12_260 rfl tyX12_ok nmX12 rfl rfl (fun S_1 => ?_)
    refine qr_iconst (n := 20) 0 (dkX12_undo (i := 11) rfl) rfl (by decide) ?_
    refine qr_istore_n (n := 21) (lv2 := [(0, .ref (G.2.2.1 0)), (1, .int 0)]) [1, 0] (dkX12_undo (i := 12) rfl) rfl rfl (by decide) rfl ?_
    refine qr_lp2 (fun (S_2 : qv_St) (x1_1 : Int32) => [(0, .ref (G.2.2.1 0)), (1, .int x1_1)]) (fun (S_2 : qv_St) (x1_1 : Int32) => S_2) (fun self_1 hself_1 S_2 x1_1 => ?_) qv_N S_1 0
    refine qr_iload_n (n := 22) 1 (dkX12_undo (i := 13) rfl) rfl rfl ?_
    refine qr_bipush (n := 24) 32 (dkX12_undo (i := 14) rfl) rfl (by decide) ?_
    refine qr_icmp_ge (t := 53) (n := 27) (dkX12_undo (i := 15) rfl) (by decide) rfl ?_ ?_
    · refine qr_iconst (n := 54) 1 (dkX12_undo (i := 31) rfl) rfl (by decide) ?_
      exact qr_zretc (dkX12_undo (i := 32) rfl) rfl rfl rfl
    · refine qr_aload_n (n := 28) 0 (dkX12_undo (i := 16) rfl) rfl rfl ?_
      refine qr_geta (n := 31) 0 53 36 (dkX12_undo (i := 17) rfl) rfl lmO rfl gnX12 (Nat.le_of_ble_eq_true rfl) kfX12_125 rfl ?_
      refine qr_iload_n (n := 32) 1 (dkX12_undo (i := 18) rfl) rfl rfl ?_
      refine qr_aload_n (n := 33) 0 (dkX12_undo (i := 19) rfl) rfl rfl ?_
      refine qr_geta (n := 36) 0 58 39 (dkX12_undo (i := 20) rfl) rfl lmO rfl gnX12 (Nat.le_of_ble_eq_true rfl) kfX12_134 rfl ?_
      refine qr_bipush (n := 38) 32 (dkX12_undo (i := 21) rfl) rfl (by decide) ?_
      refine qr_aload_n (n := 39) 0 (dkX12_undo (i := 22) rfl) rfl rfl ?_
      refine qr_geti (n := 42) 0 57 (dkX12_undo (i := 23) rfl) rfl lmO rfl gnX12 (Nat.le_of_ble_eq_true rfl) kfX12_260 rfl ?_
      refine qr_imul (n := 43) (dkX12_undo (i := 24) rfl) rfl ?_
      refine qr_iload_n (n := 44) 1 (dkX12_undo (i := 25) rfl) rfl rfl ?_
      refine qr_iadd (n := 45) (dkX12_undo (i := 26) rfl) rfl ?_
      refine qr_iald (n := 46) 39 1280 (dkX12_undo (i := 27) rfl) rfl lmA_39 ?_
      refine qr_iast (n := 47) 36 32 (dkX12_undo (i := 28) rfl) rfl lmA_36 (fun S_3 => ?_)
      refine qr_iinc (n := 50) (v := 1) (lv2 := [(0, .ref (G.2.2.1 0)), (1, .int (x1_1 + 1))]) 1 [1, 0] (dkX12_undo (i := 29) rfl) rfl rfl (by decide) (by decide) rfl ?_
      refine qr_goto (n := 21) (dkX12_undo (i := 30) rfl) (by decide) ?_
      exact hself_1 S_3 (x1_1 + 1)
  · refine qr_iconst (n := 8) 0 (dkX12_undo (i := 3) rfl) rfl (by decide) ?_
    exact qr_zretc (dkX12_undo (i := 4) rfl) rfl rfl rfl
def tbX12_isHole : List (Nat × Instr × Nat) := [(0, .iconst 0, 1), (1, .istore 4, 2), (3, .iload 4, 2), (5, .iload_n 2, 1), (6, .if_icmp .ge 24, 3), (9, .aload_n 0, 1), (10, .getfield 131, 3), (13, .iload_n 1, 1), (14, .iload 4, 2), (16, .iadd, 1), (17, .iaload, 1), (18, .iload_n 3, 1), (19, .if_icmp .le 5, 3), (22, .iconst 0, 1), (23, .ireturn, 1), (24, .iinc 4 1, 3), (27, .goto (-24), 3), (30, .iconst 1, 1), (31, .ireturn, 1)]
set_option maxRecDepth 20000 in
theorem daX12_isHole : ∀ x ∈ tbX12_isHole, decode cX12_isHole x.1 = .ok x.2 := by decide +kernel
theorem dkX12_isHole {i pc n : Nat} {ins : Instr} (h : tbX12_isHole[i]? = some (pc, ins, n)) : decode cX12_isHole pc = .ok (ins, n) := daX12_isHole (pc, ins, n) (List.mem_of_getElem? h)
def fX12_isHole (S0 : qv_St) (x1 : Int32) (x2 : Int32) (x3 : Int32) : Option Int32 :=
  qv_lp1 qv_N (fun self_1 (x4_1 : Int32) =>
    if x2 ≤ x4_1 then
      some 1
    else
      qv_ck (x1 + x4_1) 1620 <|
      if (S0.1 38 (Int32.toNatClampNeg (x1 + x4_1))) ≤ x3 then
        self_1 (x4_1 + 1)
      else
        some 0) 0
set_option maxRecDepth 20000 in
set_option maxHeartbeats 4000000 in
theorem wX12_isHole (G : qv_GT) (S0 : qv_St) (x1 : Int32) (x2 : Int32) (x3 : Int32) : ∀ r, fX12_isHole S0 x1 x2 x3 = some r → Cn G Lm yX12_isHole cX12_isHole 5 (some .boolean) 1 [.ref (G.2.2.1 0), .int x1, .int x2, .int x3] S0 ((qe_i S0) r) := by
  refine cn_of (own := RX12) (emb := (qe_i S0)) (lv := [(0, .ref (G.2.2.1 0)), (1, .int x1), (2, .int x2), (3, .int x3)]) rfl rfl (Nat.le_of_ble_eq_true rfl) rfl (fun X => ?_)
  unfold fX12_isHole
  refine qr_iconst (n := 1) 0 (dkX12_isHole (i := 0) rfl) rfl (by decide) ?_
  refine qr_istore (n := 3) (lv2 := [(0, .ref (G.2.2.1 0)), (1, .int x1), (2, .int x2), (3, .int x3), (4, .int 0)]) [1, 2, 3, 4, 0] (dkX12_isHole (i := 1) rfl) rfl (by decide) rfl ?_
  refine qr_lp1 (fun (x4_1 : Int32) => [(0, .ref (G.2.2.1 0)), (1, .int x1), (2, .int x2), (3, .int x3), (4, .int x4_1)]) (fun (x4_1 : Int32) => S0) (fun self_1 hself_1 x4_1 => ?_) qv_N 0
  refine qr_iload (n := 5) 4 (dkX12_isHole (i := 2) rfl) rfl rfl ?_
  refine qr_iload_n (n := 6) 2 (dkX12_isHole (i := 3) rfl) rfl rfl ?_
  refine qr_icmp_ge (t := 30) (n := 9) (dkX12_isHole (i := 4) rfl) (by decide) rfl ?_ ?_
  · refine qr_iconst (n := 31) 1 (dkX12_isHole (i := 17) rfl) rfl (by decide) ?_
    exact qr_zretc (dkX12_isHole (i := 18) rfl) rfl rfl rfl
  · refine qr_aload_n (n := 10) 0 (dkX12_isHole (i := 5) rfl) rfl rfl ?_
    refine qr_geta (n := 13) 0 56 38 (dkX12_isHole (i := 6) rfl) rfl lmO rfl gnX12 (Nat.le_of_ble_eq_true rfl) kfX12_131 rfl ?_
    refine qr_iload_n (n := 14) 1 (dkX12_isHole (i := 7) rfl) rfl rfl ?_
    refine qr_iload (n := 16) 4 (dkX12_isHole (i := 8) rfl) rfl rfl ?_
    refine qr_iadd (n := 17) (dkX12_isHole (i := 9) rfl) rfl ?_
    refine qr_iald (n := 18) 38 1620 (dkX12_isHole (i := 10) rfl) rfl lmA_38 ?_
    refine qr_iload_n (n := 19) 3 (dkX12_isHole (i := 11) rfl) rfl rfl ?_
    refine qr_icmp_le (t := 24) (n := 22) (dkX12_isHole (i := 12) rfl) (by decide) rfl ?_ ?_
    · refine qr_iinc (n := 27) (v := 1) (lv2 := [(0, .ref (G.2.2.1 0)), (1, .int x1), (2, .int x2), (3, .int x3), (4, .int (x4_1 + 1))]) 4 [1, 2, 3, 4, 0] (dkX12_isHole (i := 15) rfl) rfl rfl (by decide) (by decide) rfl ?_
      refine qr_goto (n := 3) (dkX12_isHole (i := 16) rfl) (by decide) ?_
      exact hself_1 (x4_1 + 1)
    · refine qr_iconst (n := 23) 0 (dkX12_isHole (i := 13) rfl) rfl (by decide) ?_
      exact qr_zretc (dkX12_isHole (i := 14) rfl) rfl rfl rfl
def tbX12_isAsked : List (Nat × Instr × Nat) := [(0, .aload_n 0, 1), (1, .iload_n 1, 1), (2, .invokevirtual 393, 3), (5, .ifCond .eq 17, 3), (8, .iload_n 2, 1), (9, .iconst 1, 1), (10, .bipush 30, 2), (12, .invokestatic 319, 3), (15, .ifCond .eq 7, 3), (18, .iconst 1, 1), (19, .goto 4, 3), (22, .iconst 0, 1), (23, .ireturn, 1)]
set_option maxRecDepth 20000 in
theorem daX12_isAsked : ∀ x ∈ tbX12_isAsked, decode cX12_isAsked x.1 = .ok x.2 := by decide +kernel
theorem dkX12_isAsked {i pc n : Nat} {ins : Instr} (h : tbX12_isAsked[i]? = some (pc, ins, n)) : decode cX12_isAsked pc = .ok (ins, n) := daX12_isAsked (pc, ins, n) (List.mem_of_getElem? h)
def fX12_isAsked (S0 : qv_St) (x1 : Int32) (x2 : Int32) : Option Int32 :=
  (fX12_isPlace S0 x1).bind fun r_1 =>
  qv_j (
    some 0) fun K_1 =>
  if r_1 = 0 then
    K_1
  else
    (fX12_in x2 1 30).bind fun r_2 =>
    if r_2 = 0 then
      K_1
    else
      some 1
set_option maxRecDepth 20000 in
set_option maxHeartbeats 4000000 in
theorem wX12_isAsked (G : qv_GT) (S0 : qv_St) (x1 : Int32) (x2 : Int32) : ∀ r, fX12_isAsked S0 x1 x2 = some r → Cn G Lm yX12_isAsked cX12_isAsked 3 (some .boolean) 3 [.ref (G.2.2.1 0), .int x1, .int x2] S0 ((qe_i S0) r) := by
  refine cn_of (own := RX12) (emb := (qe_i S0)) (lv := [(0, .ref (G.2.2.1 0)), (1, .int x1), (2, .int x2)]) rfl rfl (Nat.le_of_ble_eq_true rfl) rfl (fun X => ?_)
  unfold fX12_isAsked
  refine qr_aload_n (n := 1) 0 (dkX12_isAsked (i := 0) rfl) rfl rfl ?_
  refine qr_iload_n (n := 2) 1 (dkX12_isAsked (i := 1) rfl) rfl rfl ?_
  refine qr_cvi (n := 5) 0 [.int x1] (dkX12_isAsked (i := 2) rfl) rfl kvX12_393 rfl rfl (Nat.le_of_ble_eq_true rfl) rfl rfl lmO rfl (wX12_isPlace G S0 x1) (fun r_1 => ?_)
  refine qr_j (fun K_1 : Option Int32 => VV G Lm X RX12 cX12_isAsked 3 (some .boolean) 3 (qe_i S0) 22 [] [] S0 (K_1)) (?_) (fun K_1 hK_1 => ?_)
  · refine qr_iconst (n := 23) 0 (dkX12_isAsked (i := 11) rfl) rfl (by decide) ?_
    exact qr_zretc (dkX12_isAsked (i := 12) rfl) rfl rfl rfl
  · refine qr_if_eq (t := 22) (n := 8) (dkX12_isAsked (i := 3) rfl) (by decide) rfl ?_ ?_
    · refine qr_sub [] rfl ?_
      exact hK_1
    · refine qr_iload_n (n := 9) 2 (dkX12_isAsked (i := 4) rfl) rfl rfl ?_
      refine qr_iconst (n := 10) 1 (dkX12_isAsked (i := 5) rfl) rfl (by decide) ?_
      refine qr_bipush (n := 12) 30 (dkX12_isAsked (i := 6) rfl) rfl (by decide) ?_
      refine qr_csi (n := 15) [.int x2, .int 1, .int 30] (dkX12_isAsked (i := 7) rfl) rfl kvX12_319 rfl rfl (Nat.le_of_ble_eq_true rfl) rfl rfl (wX12_in G S0 x2 1 30) (fun r_2 => ?_)
      refine qr_if_eq (t := 22) (n := 18) (dkX12_isAsked (i := 8) rfl) (by decide) rfl ?_ ?_
      · refine qr_sub [] rfl ?_
        exact hK_1
      · refine qr_iconst (n := 19) 1 (dkX12_isAsked (i := 9) rfl) rfl (by decide) ?_
        refine qr_goto (n := 23) (dkX12_isAsked (i := 10) rfl) (by decide) ?_
        exact qr_zretc (dkX12_isAsked (i := 12) rfl) rfl rfl rfl
def tbX12_hole : List (Nat × Instr × Nat) := [(0, .aload_n 0, 1), (1, .iload_n 1, 1), (2, .iload_n 2, 1), (3, .invokevirtual 408, 3), (6, .ifCond .eq 13, 3), (9, .iload_n 3, 1), (10, .iconst 0, 1), (11, .bipush 99, 2), (13, .invokestatic 319, 3), (16, .ifCond .ne 5, 3), (19, .iconst (-1), 1), (20, .ireturn, 1), (21, .aload_n 0, 1), (22, .invokevirtual 384, 3), (25, .aload_n 0, 1), (26, .iload_n 1, 1), (27, .sipush 331, 3), (30, .invokevirtual 396, 3), (33, .iconst 0, 1), (34, .istore 4, 2), (36, .iload 4, 2), (38, .sipush 300, 3), (41, .if_icmp .gt 23, 3), (44, .aload_n 0, 1), (45, .iload 4, 2), (47, .iload_n 2, 1), (48, .iload_n 3, 1), (49, .invokevirtual 411, 3), (52, .ifCond .eq 6, 3), (55, .iload 4, 2), (57, .ireturn, 1), (58, .iinc 4 1, 3), (61, .goto (-25), 3), (64, .bipush (-2), 2), (66, .ireturn, 1)]
set_option maxRecDepth 20000 in
theorem daX12_hole : ∀ x ∈ tbX12_hole, decode cX12_hole x.1 = .ok x.2 := by decide +kernel
theorem dkX12_hole {i pc n : Nat} {ins : Instr} (h : tbX12_hole[i]? = some (pc, ins, n)) : decode cX12_hole pc = .ok (ins, n) := daX12_hole (pc, ins, n) (List.mem_of_getElem? h)
def fX12_hole (S0 : qv_St) (x1 : Int32) (x2 : Int32) (x3 : Int32) : Option (qv_St × Int32) :=
  (fX12_isAsked S0 x1 x2).bind fun r_1 =>
  if r_1 = 0 then
    some (S0, (-1))
  else
    (fX12_in x3 0 99).bind fun r_2 =>
    if r_2 = 0 then
      some (S0, (-1))
    else
      (fX12_copies S0).bind fun S_1 =>
      (fX12_fillsLoud S_1 x1 331).bind fun S_2 =>
      qv_lp1 qv_N (fun self_1 (x4_1 : Int32) =>
        if 300 < x4_1 then
          some (S_2, (-2))
        else
          (fX12_isHole S_2 x4_1 x2 x3).bind fun r_3 =>
          if r_3 = 0 then
            self_1 (x4_1 + 1)
          else
            some (S_2, x4_1)) 0
set_option maxRecDepth 20000 in
set_option maxHeartbeats 4000000 in
theorem wX12_hole (G : qv_GT) (S0 : qv_St) (x1 : Int32) (x2 : Int32) (x3 : Int32) : ∀ r, fX12_hole S0 x1 x2 x3 = some r → Cn G Lm yX12_hole cX12_hole 5 (some .int) 10 [.ref (G.2.2.1 0), .int x1, .int x2, .int x3] S0 (qe_m r) := by
  refine cn_of (own := RX12) (emb := qe_m) (lv := [(0, .ref (G.2.2.1 0)), (1, .int x1), (2, .int x2), (3, .int x3)]) rfl rfl (Nat.le_of_ble_eq_true rfl) rfl (fun X => ?_)
  unfold fX12_hole
  refine qr_aload_n (n := 1) 0 (dkX12_hole (i := 0) rfl) rfl rfl ?_
  refine qr_iload_n (n := 2) 1 (dkX12_hole (i := 1) rfl) rfl rfl ?_
  refine qr_iload_n (n := 3) 2 (dkX12_hole (i := 2) rfl) rfl rfl ?_
  refine qr_cvi (n := 6) 0 [.int x1, .int x2] (dkX12_hole (i := 3) rfl) rfl kvX12_408 rfl rfl (Nat.le_of_ble_eq_true rfl) rfl rfl lmO rfl (wX12_isAsked G S0 x1 x2) (fun r_1 => ?_)
  refine qr_if_eq (t := 19) (n := 9) (dkX12_hole (i := 4) rfl) (by decide) rfl ?_ ?_
  · refine qr_iconst (n := 20) (-1) (dkX12_hole (i := 10) rfl) rfl (by decide) ?_
    exact qr_iret (dkX12_hole (i := 11) rfl) rfl rfl
  · refine qr_iload_n (n := 10) 3 (dkX12_hole (i := 5) rfl) rfl rfl ?_
    refine qr_iconst (n := 11) 0 (dkX12_hole (i := 6) rfl) rfl (by decide) ?_
    refine qr_bipush (n := 13) 99 (dkX12_hole (i := 7) rfl) rfl (by decide) ?_
    refine qr_csi (n := 16) [.int x3, .int 0, .int 99] (dkX12_hole (i := 8) rfl) rfl kvX12_319 rfl rfl (Nat.le_of_ble_eq_true rfl) rfl rfl (wX12_in G S0 x3 0 99) (fun r_2 => ?_)
    refine qr_if_ne (t := 21) (n := 19) (dkX12_hole (i := 9) rfl) (by decide) rfl ?_ ?_
    · refine qr_aload_n (n := 22) 0 (dkX12_hole (i := 12) rfl) rfl rfl ?_
      refine qr_cvu (n := 25) 0 [] (dkX12_hole (i := 13) rfl) rfl kvX12_384 rfl rfl (Nat.le_of_ble_eq_true rfl) rfl rfl lmO rfl (wX12_copies G S0) (fun S_1 => ?_)
      refine qr_aload_n (n := 26) 0 (dkX12_hole (i := 14) rfl) rfl rfl ?_
      refine qr_iload_n (n := 27) 1 (dkX12_hole (i := 15) rfl) rfl rfl ?_
      refine qr_sipush (n := 30) 331 (dkX12_hole (i := 16) rfl) rfl (by decide) ?_
      refine qr_cvu (n := 33) 0 [.int x1, .int 331] (dkX12_hole (i := 17) rfl) rfl kvX12_396 rfl rfl (Nat.le_of_ble_eq_true rfl) rfl rfl lmO rfl (wX12_fillsLoud G S_1 x1 331) (fun S_2 => ?_)
      refine qr_iconst (n := 34) 0 (dkX12_hole (i := 18) rfl) rfl (by decide) ?_
      refine qr_istore (n := 36) (lv2 := [(0, .ref (G.2.2.1 0)), (1, .int x1), (2, .int x2), (3, .int x3), (4, .int 0)]) [1, 2, 3, 4, 0] (dkX12_hole (i := 19) rfl) rfl (by decide) rfl ?_
      refine qr_sub [0, 2, 3, 4] rfl ?_
      refine qr_lp1 (fun (x4_1 : Int32) => [(0, .ref (G.2.2.1 0)), (2, .int x2), (3, .int x3), (4, .int x4_1)]) (fun (x4_1 : Int32) => S_2) (fun self_1 hself_1 x4_1 => ?_) qv_N 0
      refine qr_iload (n := 38) 3 (dkX12_hole (i := 20) rfl) rfl rfl ?_
      refine qr_sipush (n := 41) 300 (dkX12_hole (i := 21) rfl) rfl (by decide) ?_
      refine qr_icmp_gt (t := 64) (n := 44) (dkX12_hole (i := 22) rfl) (by decide) rfl ?_ ?_
      · refine qr_bipush (n := 66) (-2) (dkX12_hole (i := 33) rfl) rfl (by decide) ?_
        exact qr_iret (dkX12_hole (i := 34) rfl) rfl rfl
      · refine qr_aload_n (n := 45) 0 (dkX12_hole (i := 23) rfl) rfl rfl ?_
        refine qr_iload (n := 47) 3 (dkX12_hole (i := 24) rfl) rfl rfl ?_
        refine qr_iload_n (n := 48) 1 (dkX12_hole (i := 25) rfl) rfl rfl ?_
        refine qr_iload_n (n := 49) 2 (dkX12_hole (i := 26) rfl) rfl rfl ?_
        refine qr_cvi (n := 52) 0 [.int x4_1, .int x2, .int x3] (dkX12_hole (i := 27) rfl) rfl kvX12_411 rfl rfl (Nat.le_of_ble_eq_true rfl) rfl rfl lmO rfl (wX12_isHole G S_2 x4_1 x2 x3) (fun r_3 => ?_)
        refine qr_if_eq (t := 58) (n := 55) (dkX12_hole (i := 28) rfl) (by decide) rfl ?_ ?_
        · refine qr_iinc (n := 61) (v := 1) (lv2 := [(0, .ref (G.2.2.1 0)), (2, .int x2), (3, .int x3), (4, .int (x4_1 + 1))]) 3 [1, 2, 3, 0] (dkX12_hole (i := 31) rfl) rfl rfl (by decide) (by decide) rfl ?_
          refine qr_goto (n := 36) (dkX12_hole (i := 32) rfl) (by decide) ?_
          exact hself_1 (x4_1 + 1)
        · refine qr_iload (n := 57) 3 (dkX12_hole (i := 29) rfl) rfl rfl ?_
          exact qr_iret (dkX12_hole (i := 30) rfl) rfl rfl
    · refine qr_iconst (n := 20) (-1) (dkX12_hole (i := 10) rfl) rfl (by decide) ?_
      exact qr_iret (dkX12_hole (i := 11) rfl) rfl rfl
def tbX12_holes : List (Nat × Instr × Nat) := [(0, .aload_n 0, 1), (1, .iload_n 1, 1), (2, .iload_n 2, 1), (3, .invokevirtual 408, 3), (6, .ifCond .eq 13, 3), (9, .iload_n 3, 1), (10, .iconst 0, 1), (11, .bipush 99, 2), (13, .invokestatic 319, 3), (16, .ifCond .ne 5, 3), (19, .iconst (-1), 1), (20, .ireturn, 1), (21, .aload_n 0, 1), (22, .invokevirtual 384, 3), (25, .aload_n 0, 1), (26, .iload_n 1, 1), (27, .sipush 331, 3), (30, .invokevirtual 396, 3), (33, .iconst 0, 1), (34, .istore 4, 2), (36, .iconst 0, 1), (37, .istore 5, 2), (39, .iload 5, 2), (41, .sipush 300, 3), (44, .if_icmp .ge 23, 3), (47, .aload_n 0, 1), (48, .iload 5, 2), (50, .iload_n 2, 1), (51, .iload_n 3, 1), (52, .invokevirtual 411, 3), (55, .ifCond .eq 6, 3), (58, .iinc 4 1, 3), (61, .iinc 5 1, 3), (64, .goto (-25), 3), (67, .iload 4, 2), (69, .ireturn, 1)]
set_option maxRecDepth 20000 in
theorem daX12_holes : ∀ x ∈ tbX12_holes, decode cX12_holes x.1 = .ok x.2 := by decide +kernel
theorem dkX12_holes {i pc n : Nat} {ins : Instr} (h : tbX12_holes[i]? = some (pc, ins, n)) : decode cX12_holes pc = .ok (ins, n) := daX12_holes (pc, ins, n) (List.mem_of_getElem? h)
def fX12_holes (S0 : qv_St) (x1 : Int32) (x2 : Int32) (x3 : Int32) : Option (qv_St × Int32) :=
  (fX12_isAsked S0 x1 x2).bind fun r_1 =>
  if r_1 = 0 then
    some (S0, (-1))
  else
    (fX12_in x3 0 99).bind fun r_2 =>
    if r_2 = 0 then
      some (S0, (-1))
    else
      (fX12_copies S0).bind fun S_1 =>
      (fX12_fillsLoud S_1 x1 331).bind fun S_2 =>
      qv_lp2 qv_N (fun self_1 (x4_1 : Int32) (x5_1 : Int32) =>
        if 300 ≤ x5_1 then
          some (S_2, x4_1)
        else
          (fX12_isHole S_2 x5_1 x2 x3).bind fun r_3 =>
          qv_j (fun (x4_2 : Int32) =>
            self_1 x4_2 (x5_1 + 1)) fun K_1 =>
          if r_3 = 0 then
            K_1 x4_1
          else
            K_1 (x4_1 + 1)) 0 0
set_option maxRecDepth 20000 in
set_option maxHeartbeats 4000000 in
theorem wX12_holes (G : qv_GT) (S0 : qv_St) (x1 : Int32) (x2 : Int32) (x3 : Int32) : ∀ r, fX12_holes S0 x1 x2 x3 = some r → Cn G Lm yX12_holes cX12_holes 6 (some .int) 10 [.ref (G.2.2.1 0), .int x1, .int x2, .int x3] S0 (qe_m r) := by
  refine cn_of (own := RX12) (emb := qe_m) (lv := [(0, .ref (G.2.2.1 0)), (1, .int x1), (2, .int x2), (3, .int x3)]) rfl rfl (Nat.le_of_ble_eq_true rfl) rfl (fun X => ?_)
  unfold fX12_holes
  refine qr_aload_n (n := 1) 0 (dkX12_holes (i := 0) rfl) rfl rfl ?_
  refine qr_iload_n (n := 2) 1 (dkX12_holes (i := 1) rfl) rfl rfl ?_
  refine qr_iload_n (n := 3) 2 (dkX12_holes (i := 2) rfl) rfl rfl ?_
  refine qr_cvi (n := 6) 0 [.int x1, .int x2] (dkX12_holes (i := 3) rfl) rfl kvX12_408 rfl rfl (Nat.le_of_ble_eq_true rfl) rfl rfl lmO rfl (wX12_isAsked G S0 x1 x2) (fun r_1 => ?_)
  refine qr_if_eq (t := 19) (n := 9) (dkX12_holes (i := 4) rfl) (by decide) rfl ?_ ?_
  · refine qr_iconst (n := 20) (-1) (dkX12_holes (i := 10) rfl) rfl (by decide) ?_
    exact qr_iret (dkX12_holes (i := 11) rfl) rfl rfl
  · refine qr_iload_n (n := 10) 3 (dkX12_holes (i := 5) rfl) rfl rfl ?_
    refine qr_iconst (n := 11) 0 (dkX12_holes (i := 6) rfl) rfl (by decide) ?_
    refine qr_bipush (n := 13) 99 (dkX12_holes (i := 7) rfl) rfl (by decide) ?_
    refine qr_csi (n := 16) [.int x3, .int 0, .int 99] (dkX12_holes (i := 8) rfl) rfl kvX12_319 rfl rfl (Nat.le_of_ble_eq_true rfl) rfl rfl (wX12_in G S0 x3 0 99) (fun r_2 => ?_)
    refine qr_if_ne (t := 21) (n := 19) (dkX12_holes (i := 9) rfl) (by decide) rfl ?_ ?_
    · refine qr_aload_n (n := 22) 0 (dkX12_holes (i := 12) rfl) rfl rfl ?_
      refine qr_cvu (n := 25) 0 [] (dkX12_holes (i := 13) rfl) rfl kvX12_384 rfl rfl (Nat.le_of_ble_eq_true rfl) rfl rfl lmO rfl (wX12_copies G S0) (fun S_1 => ?_)
      refine qr_aload_n (n := 26) 0 (dkX12_holes (i := 14) rfl) rfl rfl ?_
      refine qr_iload_n (n := 27) 1 (dkX12_holes (i := 15) rfl) rfl rfl ?_
      refine qr_sipush (n := 30) 331 (dkX12_holes (i := 16) rfl) rfl (by decide) ?_
      refine qr_cvu (n := 33) 0 [.int x1, .int 331] (dkX12_holes (i := 17) rfl) rfl kvX12_396 rfl rfl (Nat.le_of_ble_eq_true rfl) rfl rfl lmO rfl (wX12_fillsLoud G S_1 x1 331) (fun S_2 => ?_)
      refine qr_iconst (n := 34) 0 (dkX12_holes (i := 18) rfl) rfl (by decide) ?_
      refine qr_istore (n := 36) (lv2 := [(0, .ref (G.2.2.1 0)), (1, .int x1), (2, .int x2), (3, .int x3), (4, .int 0)]) [1, 2, 3, 4, 0] (dkX12_holes (i := 19) rfl) rfl (by decide) rfl ?_
      refine qr_iconst (n := 37) 0 (dkX12_holes (i := 20) rfl) rfl (by decide) ?_
      refine qr_istore (n := 39) (lv2 := [(0, .ref (G.2.2.1 0)), (1, .int x1), (2, .int x2), (3, .int x3), (4, .int 0), (5, .int 0)]) [1, 2, 3, 4, 5, 0] (dkX12_holes (i := 21) rfl) rfl (by decide) rfl ?_
      refine qr_sub [0, 2, 3, 4, 5] rfl ?_
      refine qr_lp2 (fun (x4_1 : Int32) (x5_1 : Int32) => [(0, .ref (G.2.2.1 0)), (2, .int x2), (3, .int x3), (4, .int x4_1), (5, .int x5_1)]) (fun (x4_1 : Int32) (x5_1 : Int32) => S_2) (fun self_1 hself_1 x4_1 x5_1 => ?_) qv_N 0 0
      refine qr_iload (n := 41) 4 (dkX12_holes (i := 22) rfl) rfl rfl ?_
      refine qr_sipush (n := 44) 300 (dkX12_holes (i := 23) rfl) rfl (by decide) ?_
      refine qr_icmp_ge (t := 67) (n := 47) (dkX12_holes (i := 24) rfl) (by decide) rfl ?_ ?_
      · refine qr_iload (n := 69) 3 (dkX12_holes (i := 34) rfl) rfl rfl ?_
        exact qr_iret (dkX12_holes (i := 35) rfl) rfl rfl
      · refine qr_aload_n (n := 48) 0 (dkX12_holes (i := 25) rfl) rfl rfl ?_
        refine qr_iload (n := 50) 4 (dkX12_holes (i := 26) rfl) rfl rfl ?_
        refine qr_iload_n (n := 51) 1 (dkX12_holes (i := 27) rfl) rfl rfl ?_
        refine qr_iload_n (n := 52) 2 (dkX12_holes (i := 28) rfl) rfl rfl ?_
        refine qr_cvi (n := 55) 0 [.int x5_1, .int x2, .int x3] (dkX12_holes (i := 29) rfl) rfl kvX12_411 rfl rfl (Nat.le_of_ble_eq_true rfl) rfl rfl lmO rfl (wX12_isHole G S_2 x5_1 x2 x3) (fun r_3 => ?_)
        refine qr_j (fun K_1 : Int32 → Option (qv_St × Int32) => ∀ (x4_2 : Int32), VV G Lm X RX12 cX12_holes 6 (some .int) 10 qe_m 61 [(0, .ref (G.2.2.1 0)), (2, .int x2), (3, .int x3), (4, .int x4_2), (5, .int x5_1)] [] S_2 (K_1 x4_2)) (fun x4_2 => ?_) (fun K_1 hK_1 => ?_)
        · refine qr_iinc (n := 64) (v := 1) (lv2 := [(0, .ref (G.2.2.1 0)), (2, .int x2), (3, .int x3), (4, .int x4_2), (5, .int (x5_1 + 1))]) 4 [1, 2, 3, 4, 0] (dkX12_holes (i := 32) rfl) rfl rfl (by decide) (by decide) rfl ?_
          refine qr_goto (n := 39) (dkX12_holes (i := 33) rfl) (by decide) ?_
          exact hself_1 x4_2 (x5_1 + 1)
        · refine qr_if_eq (t := 61) (n := 58) (dkX12_holes (i := 30) rfl) (by decide) rfl ?_ ?_
          · exact hK_1 x4_1
          · refine qr_iinc (n := 61) (v := 1) (lv2 := [(0, .ref (G.2.2.1 0)), (2, .int x2), (3, .int x3), (4, .int (x4_1 + 1)), (5, .int x5_1)]) 3 [1, 2, 3, 0, 4] (dkX12_holes (i := 31) rfl) rfl rfl (by decide) (by decide) rfl ?_
            exact hK_1 (x4_1 + 1)
    · refine qr_iconst (n := 20) (-1) (dkX12_holes (i := 10) rfl) rfl (by decide) ?_
      exact qr_iret (dkX12_holes (i := 11) rfl) rfl rfl
def tbX12_mostIn : List (Nat × Instr × Nat) := [(0, .iconst 0, 1), (1, .istore_n 3, 1), (2, .iconst 0, 1), (3, .istore 4, 2), (5, .iload 4, 2), (7, .iload_n 2, 1), (8, .if_icmp .ge 32, 3), (11, .aload_n 0, 1), (12, .getfield 131, 3), (15, .iload_n 1, 1), (16, .iload 4, 2), (18, .iadd, 1), (19, .iaload, 1), (20, .iload_n 3, 1), (21, .if_icmp .le 13, 3), (24, .aload_n 0, 1), (25, .getfield 131, 3), (28, .iload_n 1, 1), (29, .iload 4, 2), (31, .iadd, 1), (32, .iaload, 1), (33, .istore_n 3, 1), (34, .iinc 4 1, 3), (37, .goto (-32), 3), (40, .iload_n 3, 1), (41, .ireturn, 1)]
set_option maxRecDepth 20000 in
theorem daX12_mostIn : ∀ x ∈ tbX12_mostIn, decode cX12_mostIn x.1 = .ok x.2 := by decide +kernel
theorem dkX12_mostIn {i pc n : Nat} {ins : Instr} (h : tbX12_mostIn[i]? = some (pc, ins, n)) : decode cX12_mostIn pc = .ok (ins, n) := daX12_mostIn (pc, ins, n) (List.mem_of_getElem? h)
def fX12_mostIn (S0 : qv_St) (x1 : Int32) (x2 : Int32) : Option Int32 :=
  qv_lp2 qv_N (fun self_1 (x3_1 : Int32) (x4_1 : Int32) =>
    if x2 ≤ x4_1 then
      some x3_1
    else
      qv_ck (x1 + x4_1) 1620 <|
      qv_j (fun (x3_2 : Int32) =>
        self_1 x3_2 (x4_1 + 1)) fun K_1 =>
      if (S0.1 38 (Int32.toNatClampNeg (x1 + x4_1))) ≤ x3_1 then
        K_1 x3_1
      else
        qv_ck (x1 + x4_1) 1620 <|
        qv_b ((S0.1 38 (Int32.toNatClampNeg (x1 + x4_1))) : Int32) fun x3_3 =>
        K_1 x3_3) 0 0
set_option maxRecDepth 20000 in
set_option maxHeartbeats 4000000 in
theorem wX12_mostIn (G : qv_GT) (S0 : qv_St) (x1 : Int32) (x2 : Int32) : ∀ r, fX12_mostIn S0 x1 x2 = some r → Cn G Lm yX12_mostIn cX12_mostIn 5 (some .int) 1 [.ref (G.2.2.1 0), .int x1, .int x2] S0 ((qe_i S0) r) := by
  refine cn_of (own := RX12) (emb := (qe_i S0)) (lv := [(0, .ref (G.2.2.1 0)), (1, .int x1), (2, .int x2)]) rfl rfl (Nat.le_of_ble_eq_true rfl) rfl (fun X => ?_)
  unfold fX12_mostIn
  refine qr_iconst (n := 1) 0 (dkX12_mostIn (i := 0) rfl) rfl (by decide) ?_
  refine qr_istore_n (n := 2) (lv2 := [(0, .ref (G.2.2.1 0)), (1, .int x1), (2, .int x2), (3, .int 0)]) [1, 2, 3, 0] (dkX12_mostIn (i := 1) rfl) rfl rfl (by decide) rfl ?_
  refine qr_iconst (n := 3) 0 (dkX12_mostIn (i := 2) rfl) rfl (by decide) ?_
  refine qr_istore (n := 5) (lv2 := [(0, .ref (G.2.2.1 0)), (1, .int x1), (2, .int x2), (3, .int 0), (4, .int 0)]) [1, 2, 3, 4, 0] (dkX12_mostIn (i := 3) rfl) rfl (by decide) rfl ?_
  refine qr_lp2 (fun (x3_1 : Int32) (x4_1 : Int32) => [(0, .ref (G.2.2.1 0)), (1, .int x1), (2, .int x2), (3, .int x3_1), (4, .int x4_1)]) (fun (x3_1 : Int32) (x4_1 : Int32) => S0) (fun self_1 hself_1 x3_1 x4_1 => ?_) qv_N 0 0
  refine qr_iload (n := 7) 4 (dkX12_mostIn (i := 4) rfl) rfl rfl ?_
  refine qr_iload_n (n := 8) 2 (dkX12_mostIn (i := 5) rfl) rfl rfl ?_
  refine qr_icmp_ge (t := 40) (n := 11) (dkX12_mostIn (i := 6) rfl) (by decide) rfl ?_ ?_
  · refine qr_iload_n (n := 41) 3 (dkX12_mostIn (i := 24) rfl) rfl rfl ?_
    exact qr_iret (dkX12_mostIn (i := 25) rfl) rfl rfl
  · refine qr_aload_n (n := 12) 0 (dkX12_mostIn (i := 7) rfl) rfl rfl ?_
    refine qr_geta (n := 15) 0 56 38 (dkX12_mostIn (i := 8) rfl) rfl lmO rfl gnX12 (Nat.le_of_ble_eq_true rfl) kfX12_131 rfl ?_
    refine qr_iload_n (n := 16) 1 (dkX12_mostIn (i := 9) rfl) rfl rfl ?_
    refine qr_iload (n := 18) 4 (dkX12_mostIn (i := 10) rfl) rfl rfl ?_
    refine qr_iadd (n := 19) (dkX12_mostIn (i := 11) rfl) rfl ?_
    refine qr_iald (n := 20) 38 1620 (dkX12_mostIn (i := 12) rfl) rfl lmA_38 ?_
    refine qr_iload_n (n := 21) 3 (dkX12_mostIn (i := 13) rfl) rfl rfl ?_
    refine qr_j (fun K_1 : Int32 → Option Int32 => ∀ (x3_2 : Int32), VV G Lm X RX12 cX12_mostIn 5 (some .int) 1 (qe_i S0) 34 [(0, .ref (G.2.2.1 0)), (1, .int x1), (2, .int x2), (3, .int x3_2), (4, .int x4_1)] [] S0 (K_1 x3_2)) (fun x3_2 => ?_) (fun K_1 hK_1 => ?_)
    · refine qr_iinc (n := 37) (v := 1) (lv2 := [(0, .ref (G.2.2.1 0)), (1, .int x1), (2, .int x2), (3, .int x3_2), (4, .int (x4_1 + 1))]) 4 [1, 2, 3, 4, 0] (dkX12_mostIn (i := 22) rfl) rfl rfl (by decide) (by decide) rfl ?_
      refine qr_goto (n := 5) (dkX12_mostIn (i := 23) rfl) (by decide) ?_
      exact hself_1 x3_2 (x4_1 + 1)
    · refine qr_icmp_le (t := 34) (n := 24) (dkX12_mostIn (i := 14) rfl) (by decide) rfl ?_ ?_
      · exact hK_1 x3_1
      · refine qr_aload_n (n := 25) 0 (dkX12_mostIn (i := 15) rfl) rfl rfl ?_
        refine qr_geta (n := 28) 0 56 38 (dkX12_mostIn (i := 16) rfl) rfl lmO rfl gnX12 (Nat.le_of_ble_eq_true rfl) kfX12_131 rfl ?_
        refine qr_iload_n (n := 29) 1 (dkX12_mostIn (i := 17) rfl) rfl rfl ?_
        refine qr_iload (n := 31) 4 (dkX12_mostIn (i := 18) rfl) rfl rfl ?_
        refine qr_iadd (n := 32) (dkX12_mostIn (i := 19) rfl) rfl ?_
        refine qr_iald (n := 33) 38 1620 (dkX12_mostIn (i := 20) rfl) rfl lmA_38 ?_
        refine qr_b (α := Int32) (S0.1 38 (Int32.toNatClampNeg (x1 + x4_1))) (lvf := fun _ => [(0, .ref (G.2.2.1 0)), (1, .int x1), (2, .int x2), (3, .int x3_1), (4, .int x4_1)]) (stf := fun z => .int z :: []) (Sf := fun _ => S0) (fun x3_3 => ?_)
        refine qr_istore_n (n := 34) (lv2 := [(0, .ref (G.2.2.1 0)), (1, .int x1), (2, .int x2), (3, .int x3_3), (4, .int x4_1)]) [1, 2, 3, 0, 4] (dkX12_mostIn (i := 21) rfl) rfl rfl (by decide) rfl ?_
        exact hK_1 x3_3
def tbX12_softest : List (Nat × Instr × Nat) := [(0, .aload_n 0, 1), (1, .iload_n 1, 1), (2, .iload_n 2, 1), (3, .invokevirtual 408, 3), (6, .ifCond .eq 12, 3), (9, .iload_n 3, 1), (10, .iconst 0, 1), (11, .iconst 1, 1), (12, .invokestatic 319, 3), (15, .ifCond .ne 5, 3), (18, .iconst (-1), 1), (19, .ireturn, 1), (20, .aload_n 0, 1), (21, .invokevirtual 384, 3), (24, .aload_n 0, 1), (25, .iload_n 1, 1), (26, .sipush 331, 3), (29, .invokevirtual 396, 3), (32, .iconst 0, 1), (33, .istore 4, 2), (35, .iconst 1, 1), (36, .istore 5, 2), (38, .iload 5, 2), (40, .sipush 300, 3), (43, .if_icmp .gt 30, 3), (46, .aload_n 0, 1), (47, .iload 5, 2), (49, .iload_n 2, 1), (50, .invokevirtual 414, 3), (53, .aload_n 0, 1), (54, .iload 4, 2), (56, .iload_n 2, 1), (57, .invokevirtual 414, 3), (60, .if_icmp .ge 7, 3), (63, .iload 5, 2), (65, .istore 4, 2), (67, .iinc 5 1, 3), (70, .goto (-32), 3), (73, .iload_n 3, 1), (74, .ifCond .ne 13, 3), (77, .aload_n 0, 1), (78, .iload 4, 2), (80, .iload_n 2, 1), (81, .invokevirtual 414, 3), (84, .goto 5, 3), (87, .iload 4, 2), (89, .ireturn, 1)]
set_option maxRecDepth 20000 in
theorem daX12_softest : ∀ x ∈ tbX12_softest, decode cX12_softest x.1 = .ok x.2 := by decide +kernel
theorem dkX12_softest {i pc n : Nat} {ins : Instr} (h : tbX12_softest[i]? = some (pc, ins, n)) : decode cX12_softest pc = .ok (ins, n) := daX12_softest (pc, ins, n) (List.mem_of_getElem? h)
def fX12_softest (S0 : qv_St) (x1 : Int32) (x2 : Int32) (x3 : Int32) : Option (qv_St × Int32) :=
  (fX12_isAsked S0 x1 x2).bind fun r_1 =>
  if r_1 = 0 then
    some (S0, (-1))
  else
    (fX12_in x3 0 1).bind fun r_2 =>
    if r_2 = 0 then
      some (S0, (-1))
    else
      (fX12_copies S0).bind fun S_1 =>
      (fX12_fillsLoud S_1 x1 331).bind fun S_2 =>
      qv_j (fun (x4_1 : Int32) =>
        if x3 = 0 then
          (fX12_mostIn S_2 x4_1 x2).bind fun r_3 =>
          some (S_2, r_3)
        else
          some (S_2, x4_1)) fun K_1 =>
      qv_lp2 qv_N (fun self_1 (x4_2 : Int32) (x5_1 : Int32) =>
        if 300 < x5_1 then
          K_1 x4_2
        else
          (fX12_mostIn S_2 x5_1 x2).bind fun r_4 =>
          (fX12_mostIn S_2 x4_2 x2).bind fun r_5 =>
          qv_j (fun (x4_3 : Int32) =>
            self_1 x4_3 (x5_1 + 1)) fun K_2 =>
          if r_5 ≤ r_4 then
            K_2 x4_2
          else
            K_2 x5_1) 0 1
set_option maxRecDepth 20000 in
set_option maxHeartbeats 4000000 in
theorem wX12_softest (G : qv_GT) (S0 : qv_St) (x1 : Int32) (x2 : Int32) (x3 : Int32) : ∀ r, fX12_softest S0 x1 x2 x3 = some r → Cn G Lm yX12_softest cX12_softest 6 (some .int) 10 [.ref (G.2.2.1 0), .int x1, .int x2, .int x3] S0 (qe_m r) := by
  refine cn_of (own := RX12) (emb := qe_m) (lv := [(0, .ref (G.2.2.1 0)), (1, .int x1), (2, .int x2), (3, .int x3)]) rfl rfl (Nat.le_of_ble_eq_true rfl) rfl (fun X => ?_)
  unfold fX12_softest
  refine qr_aload_n (n := 1) 0 (dkX12_softest (i := 0) rfl) rfl rfl ?_
  refine qr_iload_n (n := 2) 1 (dkX12_softest (i := 1) rfl) rfl rfl ?_
  refine qr_iload_n (n := 3) 2 (dkX12_softest (i := 2) rfl) rfl rfl ?_
  refine qr_cvi (n := 6) 0 [.int x1, .int x2] (dkX12_softest (i := 3) rfl) rfl kvX12_408 rfl rfl (Nat.le_of_ble_eq_true rfl) rfl rfl lmO rfl (wX12_isAsked G S0 x1 x2) (fun r_1 => ?_)
  refine qr_if_eq (t := 18) (n := 9) (dkX12_softest (i := 4) rfl) (by decide) rfl ?_ ?_
  · refine qr_iconst (n := 19) (-1) (dkX12_softest (i := 10) rfl) rfl (by decide) ?_
    exact qr_iret (dkX12_softest (i := 11) rfl) rfl rfl
  · refine qr_iload_n (n := 10) 3 (dkX12_softest (i := 5) rfl) rfl rfl ?_
    refine qr_iconst (n := 11) 0 (dkX12_softest (i := 6) rfl) rfl (by decide) ?_
    refine qr_iconst (n := 12) 1 (dkX12_softest (i := 7) rfl) rfl (by decide) ?_
    refine qr_csi (n := 15) [.int x3, .int 0, .int 1] (dkX12_softest (i := 8) rfl) rfl kvX12_319 rfl rfl (Nat.le_of_ble_eq_true rfl) rfl rfl (wX12_in G S0 x3 0 1) (fun r_2 => ?_)
    refine qr_if_ne (t := 20) (n := 18) (dkX12_softest (i := 9) rfl) (by decide) rfl ?_ ?_
    · refine qr_aload_n (n := 21) 0 (dkX12_softest (i := 12) rfl) rfl rfl ?_
      refine qr_cvu (n := 24) 0 [] (dkX12_softest (i := 13) rfl) rfl kvX12_384 rfl rfl (Nat.le_of_ble_eq_true rfl) rfl rfl lmO rfl (wX12_copies G S0) (fun S_1 => ?_)
      refine qr_aload_n (n := 25) 0 (dkX12_softest (i := 14) rfl) rfl rfl ?_
      refine qr_iload_n (n := 26) 1 (dkX12_softest (i := 15) rfl) rfl rfl ?_
      refine qr_sipush (n := 29) 331 (dkX12_softest (i := 16) rfl) rfl (by decide) ?_
      refine qr_cvu (n := 32) 0 [.int x1, .int 331] (dkX12_softest (i := 17) rfl) rfl kvX12_396 rfl rfl (Nat.le_of_ble_eq_true rfl) rfl rfl lmO rfl (wX12_fillsLoud G S_1 x1 331) (fun S_2 => ?_)
      refine qr_iconst (n := 33) 0 (dkX12_softest (i := 18) rfl) rfl (by decide) ?_
      refine qr_istore (n := 35) (lv2 := [(0, .ref (G.2.2.1 0)), (1, .int x1), (2, .int x2), (3, .int x3), (4, .int 0)]) [1, 2, 3, 4, 0] (dkX12_softest (i := 19) rfl) rfl (by decide) rfl ?_
      refine qr_iconst (n := 36) 1 (dkX12_softest (i := 20) rfl) rfl (by decide) ?_
      refine qr_istore (n := 38) (lv2 := [(0, .ref (G.2.2.1 0)), (1, .int x1), (2, .int x2), (3, .int x3), (4, .int 0), (5, .int 1)]) [1, 2, 3, 4, 5, 0] (dkX12_softest (i := 21) rfl) rfl (by decide) rfl ?_
      refine qr_sub [0, 2, 3, 4, 5] rfl ?_
      refine qr_j (fun K_1 : Int32 → Option (qv_St × Int32) => ∀ (x4_1 : Int32), VV G Lm X RX12 cX12_softest 6 (some .int) 10 qe_m 73 [(0, .ref (G.2.2.1 0)), (2, .int x2), (3, .int x3), (4, .int x4_1)] [] S_2 (K_1 x4_1)) (fun x4_1 => ?_) (fun K_1 hK_1 => ?_)
      · refine qr_iload_n (n := 74) 2 (dkX12_softest (i := 38) rfl) rfl rfl ?_
        refine qr_if_ne (t := 87) (n := 77) (dkX12_softest (i := 39) rfl) (by decide) rfl ?_ ?_
        · refine qr_iload (n := 89) 3 (dkX12_softest (i := 45) rfl) rfl rfl ?_
          exact qr_iret (dkX12_softest (i := 46) rfl) rfl rfl
        · refine qr_aload_n (n := 78) 0 (dkX12_softest (i := 40) rfl) rfl rfl ?_
          refine qr_iload (n := 80) 3 (dkX12_softest (i := 41) rfl) rfl rfl ?_
          refine qr_iload_n (n := 81) 1 (dkX12_softest (i := 42) rfl) rfl rfl ?_
          refine qr_cvi (n := 84) 0 [.int x4_1, .int x2] (dkX12_softest (i := 43) rfl) rfl kvX12_414 rfl rfl (Nat.le_of_ble_eq_true rfl) rfl rfl lmO rfl (wX12_mostIn G S_2 x4_1 x2) (fun r_3 => ?_)
          refine qr_goto (n := 89) (dkX12_softest (i := 44) rfl) (by decide) ?_
          exact qr_iret (dkX12_softest (i := 46) rfl) rfl rfl
      · refine qr_lp2 (fun (x4_2 : Int32) (x5_1 : Int32) => [(0, .ref (G.2.2.1 0)), (2, .int x2), (3, .int x3), (4, .int x4_2), (5, .int x5_1)]) (fun (x4_2 : Int32) (x5_1 : Int32) => S_2) (fun self_1 hself_1 x4_2 x5_1 => ?_) qv_N 0 1
        refine qr_iload (n := 40) 4 (dkX12_softest (i := 22) rfl) rfl rfl ?_
        refine qr_sipush (n := 43) 300 (dkX12_softest (i := 23) rfl) rfl (by decide) ?_
        refine qr_icmp_gt (t := 73) (n := 46) (dkX12_softest (i := 24) rfl) (by decide) rfl ?_ ?_
        · refine qr_sub [0, 1, 2, 3] rfl ?_
          exact hK_1 x4_2
        · refine qr_aload_n (n := 47) 0 (dkX12_softest (i := 25) rfl) rfl rfl ?_
          refine qr_iload (n := 49) 4 (dkX12_softest (i := 26) rfl) rfl rfl ?_
          refine qr_iload_n (n := 50) 1 (dkX12_softest (i := 27) rfl) rfl rfl ?_
          refine qr_cvi (n := 53) 0 [.int x5_1, .int x2] (dkX12_softest (i := 28) rfl) rfl kvX12_414 rfl rfl (Nat.le_of_ble_eq_true rfl) rfl rfl lmO rfl (wX12_mostIn G S_2 x5_1 x2) (fun r_4 => ?_)
          refine qr_aload_n (n := 54) 0 (dkX12_softest (i := 29) rfl) rfl rfl ?_
          refine qr_iload (n := 56) 3 (dkX12_softest (i := 30) rfl) rfl rfl ?_
          refine qr_iload_n (n := 57) 1 (dkX12_softest (i := 31) rfl) rfl rfl ?_
          refine qr_cvi (n := 60) 0 [.int x4_2, .int x2] (dkX12_softest (i := 32) rfl) rfl kvX12_414 rfl rfl (Nat.le_of_ble_eq_true rfl) rfl rfl lmO rfl (wX12_mostIn G S_2 x4_2 x2) (fun r_5 => ?_)
          refine qr_j (fun K_2 : Int32 → Option (qv_St × Int32) => ∀ (x4_3 : Int32), VV G Lm X RX12 cX12_softest 6 (some .int) 10 qe_m 67 [(0, .ref (G.2.2.1 0)), (2, .int x2), (3, .int x3), (4, .int x4_3), (5, .int x5_1)] [] S_2 (K_2 x4_3)) (fun x4_3 => ?_) (fun K_2 hK_2 => ?_)
          · refine qr_iinc (n := 70) (v := 1) (lv2 := [(0, .ref (G.2.2.1 0)), (2, .int x2), (3, .int x3), (4, .int x4_3), (5, .int (x5_1 + 1))]) 4 [1, 2, 3, 4, 0] (dkX12_softest (i := 36) rfl) rfl rfl (by decide) (by decide) rfl ?_
            refine qr_goto (n := 38) (dkX12_softest (i := 37) rfl) (by decide) ?_
            exact hself_1 x4_3 (x5_1 + 1)
          · refine qr_icmp_ge (t := 67) (n := 63) (dkX12_softest (i := 33) rfl) (by decide) rfl ?_ ?_
            · exact hK_2 x4_2
            · refine qr_iload (n := 65) 4 (dkX12_softest (i := 34) rfl) rfl rfl ?_
              refine qr_istore (n := 67) (lv2 := [(0, .ref (G.2.2.1 0)), (2, .int x2), (3, .int x3), (4, .int x5_1), (5, .int x5_1)]) [1, 2, 3, 0, 4] (dkX12_softest (i := 35) rfl) rfl (by decide) rfl ?_
              exact hK_2 x5_1
    · refine qr_iconst (n := 19) (-1) (dkX12_softest (i := 10) rfl) rfl (by decide) ?_
      exact qr_iret (dkX12_softest (i := 11) rfl) rfl rfl
def tbX12_next : List (Nat × Instr × Nat) := [(0, .aload_n 0, 1), (1, .iload_n 1, 1), (2, .invokevirtual 381, 3), (5, .ifCond .ne 5, 3), (8, .iconst (-1), 1), (9, .ireturn, 1), (10, .aload_n 0, 1), (11, .invokevirtual 384, 3), (14, .iconst 0, 1), (15, .istore_n 2, 1), (16, .iload_n 2, 1), (17, .sipush 300, 3), (20, .if_icmp .gt 27, 3), (23, .aload_n 0, 1), (24, .iload_n 1, 1), (25, .aload_n 0, 1), (26, .getfield 128, 3), (29, .iconst 0, 1), (30, .iaload, 1), (31, .iload_n 2, 1), (32, .iadd, 1), (33, .invokevirtual 348, 3), (36, .ifCond .lt 5, 3), (39, .iload_n 2, 1), (40, .ireturn, 1), (41, .iinc 2 1, 3), (44, .goto (-28), 3), (47, .bipush (-2), 2), (49, .ireturn, 1)]
set_option maxRecDepth 20000 in
theorem daX12_next : ∀ x ∈ tbX12_next, decode cX12_next x.1 = .ok x.2 := by decide +kernel
theorem dkX12_next {i pc n : Nat} {ins : Instr} (h : tbX12_next[i]? = some (pc, ins, n)) : decode cX12_next pc = .ok (ins, n) := daX12_next (pc, ins, n) (List.mem_of_getElem? h)
def fX12_next (S0 : qv_St) (x1 : Int32) : Option (qv_St × Int32) :=
  (fX12_isNoise S0 x1).bind fun r_1 =>
  if r_1 = 0 then
    some (S0, (-1))
  else
    (fX12_copies S0).bind fun S_1 =>
    qv_lp1 qv_N (fun self_1 (x2_1 : Int32) =>
      if 300 < x2_1 then
        some (S_1, (-2))
      else
        qv_ck 0 32 <|
        (fX12_ageNow S_1 x1 ((S_1.1 37 (Int32.toNatClampNeg 0)) + x2_1)).bind fun r_2 =>
        if r_2 < 0 then
          self_1 (x2_1 + 1)
        else
          some (S_1, x2_1)) 0
set_option maxRecDepth 20000 in
set_option maxHeartbeats 4000000 in
theorem wX12_next (G : qv_GT) (S0 : qv_St) (x1 : Int32) : ∀ r, fX12_next S0 x1 = some r → Cn G Lm yX12_next cX12_next 3 (some .int) 6 [.ref (G.2.2.1 0), .int x1] S0 (qe_m r) := by
  refine cn_of (own := RX12) (emb := qe_m) (lv := [(0, .ref (G.2.2.1 0)), (1, .int x1)]) rfl rfl (Nat.le_of_ble_eq_true rfl) rfl (fun X => ?_)
  unfold fX12_next
  refine qr_aload_n (n := 1) 0 (dkX12_next (i := 0) rfl) rfl rfl ?_
  refine qr_iload_n (n := 2) 1 (dkX12_next (i := 1) rfl) rfl rfl ?_
  refine qr_cvi (n := 5) 0 [.int x1] (dkX12_next (i := 2) rfl) rfl kvX12_381 rfl rfl (Nat.le_of_ble_eq_true rfl) rfl rfl lmO rfl (wX12_isNoise G S0 x1) (fun r_1 => ?_)
  refine qr_if_ne (t := 10) (n := 8) (dkX12_next (i := 3) rfl) (by decide) rfl ?_ ?_
  · refine qr_aload_n (n := 11) 0 (dkX12_next (i := 6) rfl) rfl rfl ?_
    refine qr_cvu (n := 14) 0 [] (dkX12_next (i := 7) rfl) rfl kvX12_384 rfl rfl (Nat.le_of_ble_eq_true rfl) rfl rfl lmO rfl (wX12_copies G S0) (fun S_1 => ?_)
    refine qr_iconst (n := 15) 0 (dkX12_next (i := 8) rfl) rfl (by decide) ?_
    refine qr_istore_n (n := 16) (lv2 := [(0, .ref (G.2.2.1 0)), (1, .int x1), (2, .int 0)]) [1, 2, 0] (dkX12_next (i := 9) rfl) rfl rfl (by decide) rfl ?_
    refine qr_lp1 (fun (x2_1 : Int32) => [(0, .ref (G.2.2.1 0)), (1, .int x1), (2, .int x2_1)]) (fun (x2_1 : Int32) => S_1) (fun self_1 hself_1 x2_1 => ?_) qv_N 0
    refine qr_iload_n (n := 17) 2 (dkX12_next (i := 10) rfl) rfl rfl ?_
    refine qr_sipush (n := 20) 300 (dkX12_next (i := 11) rfl) rfl (by decide) ?_
    refine qr_icmp_gt (t := 47) (n := 23) (dkX12_next (i := 12) rfl) (by decide) rfl ?_ ?_
    · refine qr_bipush (n := 49) (-2) (dkX12_next (i := 27) rfl) rfl (by decide) ?_
      exact qr_iret (dkX12_next (i := 28) rfl) rfl rfl
    · refine qr_aload_n (n := 24) 0 (dkX12_next (i := 13) rfl) rfl rfl ?_
      refine qr_iload_n (n := 25) 1 (dkX12_next (i := 14) rfl) rfl rfl ?_
      refine qr_aload_n (n := 26) 0 (dkX12_next (i := 15) rfl) rfl rfl ?_
      refine qr_geta (n := 29) 0 54 37 (dkX12_next (i := 16) rfl) rfl lmO rfl gnX12 (Nat.le_of_ble_eq_true rfl) kfX12_128 rfl ?_
      refine qr_iconst (n := 30) 0 (dkX12_next (i := 17) rfl) rfl (by decide) ?_
      refine qr_iald (n := 31) 37 32 (dkX12_next (i := 18) rfl) rfl lmA_37 ?_
      refine qr_iload_n (n := 32) 2 (dkX12_next (i := 19) rfl) rfl rfl ?_
      refine qr_iadd (n := 33) (dkX12_next (i := 20) rfl) rfl ?_
      refine qr_cvi (n := 36) 0 [.int x1, .int ((S_1.1 37 (Int32.toNatClampNeg 0)) + x2_1)] (dkX12_next (i := 21) rfl) rfl kvX12_348 rfl rfl (Nat.le_of_ble_eq_true rfl) rfl rfl lmO rfl (wX12_ageNow G S_1 x1 ((S_1.1 37 (Int32.toNatClampNeg 0)) + x2_1)) (fun r_2 => ?_)
      refine qr_if_lt (t := 41) (n := 39) (dkX12_next (i := 22) rfl) (by decide) rfl ?_ ?_
      · refine qr_iinc (n := 44) (v := 1) (lv2 := [(0, .ref (G.2.2.1 0)), (1, .int x1), (2, .int (x2_1 + 1))]) 2 [1, 2, 0] (dkX12_next (i := 25) rfl) rfl rfl (by decide) (by decide) rfl ?_
        refine qr_goto (n := 16) (dkX12_next (i := 26) rfl) (by decide) ?_
        exact hself_1 (x2_1 + 1)
      · refine qr_iload_n (n := 40) 2 (dkX12_next (i := 23) rfl) rfl rfl ?_
        exact qr_iret (dkX12_next (i := 24) rfl) rfl rfl
  · refine qr_iconst (n := 9) (-1) (dkX12_next (i := 4) rfl) rfl (by decide) ?_
    exact qr_iret (dkX12_next (i := 5) rfl) rfl rfl
def tbX12_isLoudest : List (Nat × Instr × Nat) := [(0, .aload_n 0, 1), (1, .iload_n 1, 1), (2, .iload_n 2, 1), (3, .iload_n 3, 1), (4, .invokevirtual 355, 3), (7, .istore 4, 2), (9, .iload 4, 2), (11, .ifCond .ne 5, 3), (14, .iconst 0, 1), (15, .ireturn, 1), (16, .iconst 0, 1), (17, .istore 5, 2), (19, .iload 5, 2), (21, .aload_n 0, 1), (22, .getfield 43, 3), (25, .aload_n 0, 1), (26, .getfield 242, 3), (29, .iaload, 1), (30, .if_icmp .ge 51, 3), (33, .iload 5, 2), (35, .iload_n 1, 1), (36, .if_icmp .ne 7, 3), (39, .iconst 0, 1), (40, .goto 11, 3), (43, .aload_n 0, 1), (44, .iload 5, 2), (46, .iload_n 2, 1), (47, .iload_n 3, 1), (48, .invokevirtual 355, 3), (51, .istore 6, 2), (53, .iload 6, 2), (55, .iload 4, 2), (57, .if_icmp .gt 16, 3), (60, .iload 6, 2), (62, .iload 4, 2), (64, .if_icmp .ne 11, 3), (67, .iload 5, 2), (69, .iload_n 1, 1), (70, .if_icmp .ge 5, 3), (73, .iconst 0, 1), (74, .ireturn, 1), (75, .iinc 5 1, 3), (78, .goto (-59), 3), (81, .iconst 1, 1), (82, .ireturn, 1)]
set_option maxRecDepth 20000 in
theorem daX12_isLoudest : ∀ x ∈ tbX12_isLoudest, decode cX12_isLoudest x.1 = .ok x.2 := by decide +kernel
theorem dkX12_isLoudest {i pc n : Nat} {ins : Instr} (h : tbX12_isLoudest[i]? = some (pc, ins, n)) : decode cX12_isLoudest pc = .ok (ins, n) := daX12_isLoudest (pc, ins, n) (List.mem_of_getElem? h)
def fX12_isLoudest (S0 : qv_St) (x1 : Int32) (x2 : Int32) (x3 : Int32) : Option (qv_St × Int32) :=
  qv_cm (fX12_heardNow S0 x1 x2 x3) fun S_1 r_1 =>
  if r_1 = 0 then
    some (S_1, 0)
  else
    qv_lp2 qv_N (fun self_1 (S_2 : qv_St) (x5_1 : Int32) =>
      qv_ck (S_2.1 0 18) 2 <|
      if (S_2.1 9 (Int32.toNatClampNeg (S_2.1 0 18))) ≤ x5_1 then
        some (S_2, 1)
      else
        qv_j (fun (S_3 : qv_St) (t_1 : Int32) =>
          if r_1 < t_1 then
            some (S_3, 0)
          else
            qv_j (
              self_1 S_3 (x5_1 + 1)) fun K_2 =>
            if t_1 = r_1 then
              if x1 ≤ x5_1 then
                K_2
              else
                some (S_3, 0)
            else
              K_2) fun K_1 =>
        if x5_1 = x1 then
          K_1 S_2 0
        else
          qv_cm (fX12_heardNow S_2 x5_1 x2 x3) fun S_4 r_2 =>
          K_1 S_4 r_2) S_1 0
set_option maxRecDepth 20000 in
set_option maxHeartbeats 4000000 in
theorem wX12_isLoudest (G : qv_GT) (S0 : qv_St) (x1 : Int32) (x2 : Int32) (x3 : Int32) : ∀ r, fX12_isLoudest S0 x1 x2 x3 = some r → Cn G Lm yX12_isLoudest cX12_isLoudest 7 (some .boolean) 7 [.ref (G.2.2.1 0), .int x1, .int x2, .int x3] S0 (qe_m r) := by
  refine cn_of (own := RX12) (emb := qe_m) (lv := [(0, .ref (G.2.2.1 0)), (1, .int x1), (2, .int x2), (3, .int x3)]) rfl rfl (Nat.le_of_ble_eq_true rfl) rfl (fun X => ?_)
  unfold fX12_isLoudest
  refine qr_aload_n (n := 1) 0 (dkX12_isLoudest (i := 0) rfl) rfl rfl ?_
  refine qr_iload_n (n := 2) 1 (dkX12_isLoudest (i := 1) rfl) rfl rfl ?_
  refine qr_iload_n (n := 3) 2 (dkX12_isLoudest (i := 2) rfl) rfl rfl ?_
  refine qr_iload_n (n := 4) 3 (dkX12_isLoudest (i := 3) rfl) rfl rfl ?_
  refine qr_cvm (n := 7) 0 [.int x1, .int x2, .int x3] (dkX12_isLoudest (i := 4) rfl) rfl kvX12_355 rfl rfl (Nat.le_of_ble_eq_true rfl) rfl rfl lmO rfl (wX12_heardNow G S0 x1 x2 x3) (fun S_1 r_1 => ?_)
  refine qr_istore (n := 9) (lv2 := [(0, .ref (G.2.2.1 0)), (1, .int x1), (2, .int x2), (3, .int x3), (4, .int r_1)]) [1, 2, 3, 4, 0] (dkX12_isLoudest (i := 5) rfl) rfl (by decide) rfl ?_
  refine qr_iload (n := 11) 4 (dkX12_isLoudest (i := 6) rfl) rfl rfl ?_
  refine qr_if_ne (t := 16) (n := 14) (dkX12_isLoudest (i := 7) rfl) (by decide) rfl ?_ ?_
  · refine qr_iconst (n := 17) 0 (dkX12_isLoudest (i := 10) rfl) rfl (by decide) ?_
    refine qr_istore (n := 19) (lv2 := [(0, .ref (G.2.2.1 0)), (1, .int x1), (2, .int x2), (3, .int x3), (4, .int r_1), (5, .int 0)]) [1, 2, 3, 4, 5, 0] (dkX12_isLoudest (i := 11) rfl) rfl (by decide) rfl ?_
    refine qr_lp2 (fun (S_2 : qv_St) (x5_1 : Int32) => [(0, .ref (G.2.2.1 0)), (1, .int x1), (2, .int x2), (3, .int x3), (4, .int r_1), (5, .int x5_1)]) (fun (S_2 : qv_St) (x5_1 : Int32) => S_2) (fun self_1 hself_1 S_2 x5_1 => ?_) qv_N S_1 0
    refine qr_iload (n := 21) 5 (dkX12_isLoudest (i := 12) rfl) rfl rfl ?_
    refine qr_aload_n (n := 22) 0 (dkX12_isLoudest (i := 13) rfl) rfl rfl ?_
    refine qr_geta (n := 25) 0 22 9 (dkX12_isLoudest (i := 14) rfl) rfl lmO rfl gnX12 (Nat.le_of_ble_eq_true rfl) kfX12_43 rfl ?_
    refine qr_aload_n (n := 26) 0 (dkX12_isLoudest (i := 15) rfl) rfl rfl ?_
    refine qr_geti (n := 29) 0 18 (dkX12_isLoudest (i := 16) rfl) rfl lmO rfl gnX12 (Nat.le_of_ble_eq_true rfl) kfX12_242 rfl ?_
    refine qr_iald (n := 30) 9 2 (dkX12_isLoudest (i := 17) rfl) rfl lmA_9 ?_
    refine qr_icmp_ge (t := 81) (n := 33) (dkX12_isLoudest (i := 18) rfl) (by decide) rfl ?_ ?_
    · refine qr_iconst (n := 82) 1 (dkX12_isLoudest (i := 43) rfl) rfl (by decide) ?_
      exact qr_zretc (dkX12_isLoudest (i := 44) rfl) rfl rfl rfl
    · refine qr_iload (n := 35) 5 (dkX12_isLoudest (i := 19) rfl) rfl rfl ?_
      refine qr_iload_n (n := 36) 1 (dkX12_isLoudest (i := 20) rfl) rfl rfl ?_
      refine qr_j (fun K_1 : qv_St → Int32 → Option (qv_St × Int32) => ∀ (S_3 : qv_St) (t_1 : Int32), VV G Lm X RX12 cX12_isLoudest 7 (some .boolean) 7 qe_m 51 [(0, .ref (G.2.2.1 0)), (1, .int x1), (2, .int x2), (3, .int x3), (4, .int r_1), (5, .int x5_1)] [.int t_1] S_3 (K_1 S_3 t_1)) (fun S_3 t_1 => ?_) (fun K_1 hK_1 => ?_)
      · refine qr_istore (n := 53) (lv2 := [(0, .ref (G.2.2.1 0)), (1, .int x1), (2, .int x2), (3, .int x3), (4, .int r_1), (5, .int x5_1), (6, .int t_1)]) [1, 2, 3, 4, 5, 6, 0] (dkX12_isLoudest (i := 29) rfl) rfl (by decide) rfl ?_
        refine qr_iload (n := 55) 6 (dkX12_isLoudest (i := 30) rfl) rfl rfl ?_
        refine qr_iload (n := 57) 4 (dkX12_isLoudest (i := 31) rfl) rfl rfl ?_
        refine qr_icmp_gt (t := 73) (n := 60) (dkX12_isLoudest (i := 32) rfl) (by decide) rfl ?_ ?_
        · refine qr_iconst (n := 74) 0 (dkX12_isLoudest (i := 39) rfl) rfl (by decide) ?_
          exact qr_zretc (dkX12_isLoudest (i := 40) rfl) rfl rfl rfl
        · refine qr_iload (n := 62) 6 (dkX12_isLoudest (i := 33) rfl) rfl rfl ?_
          refine qr_iload (n := 64) 4 (dkX12_isLoudest (i := 34) rfl) rfl rfl ?_
          refine qr_j (fun K_2 : Option (qv_St × Int32) => VV G Lm X RX12 cX12_isLoudest 7 (some .boolean) 7 qe_m 75 [(0, .ref (G.2.2.1 0)), (1, .int x1), (2, .int x2), (3, .int x3), (4, .int r_1), (5, .int x5_1)] [] S_3 (K_2)) (?_) (fun K_2 hK_2 => ?_)
          · refine qr_iinc (n := 78) (v := 1) (lv2 := [(0, .ref (G.2.2.1 0)), (1, .int x1), (2, .int x2), (3, .int x3), (4, .int r_1), (5, .int (x5_1 + 1))]) 5 [1, 2, 3, 4, 5, 0] (dkX12_isLoudest (i := 41) rfl) rfl rfl (by decide) (by decide) rfl ?_
            refine qr_goto (n := 19) (dkX12_isLoudest (i := 42) rfl) (by decide) ?_
            exact hself_1 S_3 (x5_1 + 1)
          · refine qr_icmp_ne (t := 75) (n := 67) (dkX12_isLoudest (i := 35) rfl) (by decide) rfl ?_ ?_
            · refine qr_sub [0, 1, 2, 3, 4, 5] rfl ?_
              exact hK_2
            · refine qr_iload (n := 69) 5 (dkX12_isLoudest (i := 36) rfl) rfl rfl ?_
              refine qr_iload_n (n := 70) 1 (dkX12_isLoudest (i := 37) rfl) rfl rfl ?_
              refine qr_icmp_ge (t := 75) (n := 73) (dkX12_isLoudest (i := 38) rfl) (by decide) rfl ?_ ?_
              · refine qr_sub [0, 1, 2, 3, 4, 5] rfl ?_
                exact hK_2
              · refine qr_iconst (n := 74) 0 (dkX12_isLoudest (i := 39) rfl) rfl (by decide) ?_
                exact qr_zretc (dkX12_isLoudest (i := 40) rfl) rfl rfl rfl
      · refine qr_icmp_ne (t := 43) (n := 39) (dkX12_isLoudest (i := 21) rfl) (by decide) rfl ?_ ?_
        · refine qr_aload_n (n := 44) 0 (dkX12_isLoudest (i := 24) rfl) rfl rfl ?_
          refine qr_iload (n := 46) 5 (dkX12_isLoudest (i := 25) rfl) rfl rfl ?_
          refine qr_iload_n (n := 47) 2 (dkX12_isLoudest (i := 26) rfl) rfl rfl ?_
          refine qr_iload_n (n := 48) 3 (dkX12_isLoudest (i := 27) rfl) rfl rfl ?_
          refine qr_cvm (n := 51) 0 [.int x5_1, .int x2, .int x3] (dkX12_isLoudest (i := 28) rfl) rfl kvX12_355 rfl rfl (Nat.le_of_ble_eq_true rfl) rfl rfl lmO rfl (wX12_heardNow G S_2 x5_1 x2 x3) (fun S_4 r_2 => ?_)
          exact hK_1 S_4 r_2
        · refine qr_iconst (n := 40) 0 (dkX12_isLoudest (i := 22) rfl) rfl (by decide) ?_
          refine qr_goto (n := 51) (dkX12_isLoudest (i := 23) rfl) (by decide) ?_
          exact hK_1 S_2 0
  · refine qr_iconst (n := 15) 0 (dkX12_isLoudest (i := 8) rfl) rfl (by decide) ?_
    exact qr_zretc (dkX12_isLoudest (i := 9) rfl) rfl rfl rfl
def tbX12_loudest : List (Nat × Instr × Nat) := [(0, .aload_n 0, 1), (1, .iload_n 1, 1), (2, .invokevirtual 381, 3), (5, .ifCond .eq 11, 3), (8, .aload_n 0, 1), (9, .iload_n 2, 1), (10, .invokevirtual 393, 3), (13, .ifCond .ne 5, 3), (16, .iconst (-1), 1), (17, .ireturn, 1), (18, .aload_n 0, 1), (19, .invokevirtual 384, 3), (22, .iconst 0, 1), (23, .istore_n 3, 1), (24, .iconst 0, 1), (25, .istore 4, 2), (27, .iload 4, 2), (29, .sipush 300, 3), (32, .if_icmp .ge 30, 3), (35, .aload_n 0, 1), (36, .iload_n 1, 1), (37, .iload_n 2, 1), (38, .aload_n 0, 1), (39, .getfield 128, 3), (42, .iconst 0, 1), (43, .iaload, 1), (44, .iload 4, 2), (46, .iadd, 1), (47, .invokevirtual 417, 3), (50, .ifCond .eq 6, 3), (53, .iinc 3 1, 3), (56, .iinc 4 1, 3), (59, .goto (-32), 3), (62, .iload_n 3, 1), (63, .ireturn, 1)]
set_option maxRecDepth 20000 in
theorem daX12_loudest : ∀ x ∈ tbX12_loudest, decode cX12_loudest x.1 = .ok x.2 := by decide +kernel
theorem dkX12_loudest {i pc n : Nat} {ins : Instr} (h : tbX12_loudest[i]? = some (pc, ins, n)) : decode cX12_loudest pc = .ok (ins, n) := daX12_loudest (pc, ins, n) (List.mem_of_getElem? h)
def fX12_loudest (S0 : qv_St) (x1 : Int32) (x2 : Int32) : Option (qv_St × Int32) :=
  (fX12_isNoise S0 x1).bind fun r_1 =>
  if r_1 = 0 then
    some (S0, (-1))
  else
    (fX12_isPlace S0 x2).bind fun r_2 =>
    if r_2 = 0 then
      some (S0, (-1))
    else
      (fX12_copies S0).bind fun S_1 =>
      qv_lp3 qv_N (fun self_1 (S_2 : qv_St) (x3_1 : Int32) (x4_1 : Int32) =>
        if 300 ≤ x4_1 then
          some (S_2, x3_1)
        else
          qv_ck 0 32 <|
          qv_cm (fX12_isLoudest S_2 x1 x2 ((S_2.1 37 (Int32.toNatClampNeg 0)) + x4_1)) fun S_3 r_3 =>
          qv_j (fun (x3_2 : Int32) =>
            self_1 S_3 x3_2 (x4_1 + 1)) fun K_1 =>
          if r_3 = 0 then
            K_1 x3_1
          else
            K_1 (x3_1 + 1)) S_1 0 0
set_option maxRecDepth 20000 in
set_option maxHeartbeats 4000000 in
theorem wX12_loudest (G : qv_GT) (S0 : qv_St) (x1 : Int32) (x2 : Int32) : ∀ r, fX12_loudest S0 x1 x2 = some r → Cn G Lm yX12_loudest cX12_loudest 5 (some .int) 8 [.ref (G.2.2.1 0), .int x1, .int x2] S0 (qe_m r) := by
  refine cn_of (own := RX12) (emb := qe_m) (lv := [(0, .ref (G.2.2.1 0)), (1, .int x1), (2, .int x2)]) rfl rfl (Nat.le_of_ble_eq_true rfl) rfl (fun X => ?_)
  unfold fX12_loudest
  refine qr_aload_n (n := 1) 0 (dkX12_loudest (i := 0) rfl) rfl rfl ?_
  refine qr_iload_n (n := 2) 1 (dkX12_loudest (i := 1) rfl) rfl rfl ?_
  refine qr_cvi (n := 5) 0 [.int x1] (dkX12_loudest (i := 2) rfl) rfl kvX12_381 rfl rfl (Nat.le_of_ble_eq_true rfl) rfl rfl lmO rfl (wX12_isNoise G S0 x1) (fun r_1 => ?_)
  refine qr_if_eq (t := 16) (n := 8) (dkX12_loudest (i := 3) rfl) (by decide) rfl ?_ ?_
  · refine qr_iconst (n := 17) (-1) (dkX12_loudest (i := 8) rfl) rfl (by decide) ?_
    exact qr_iret (dkX12_loudest (i := 9) rfl) rfl rfl
  · refine qr_aload_n (n := 9) 0 (dkX12_loudest (i := 4) rfl) rfl rfl ?_
    refine qr_iload_n (n := 10) 2 (dkX12_loudest (i := 5) rfl) rfl rfl ?_
    refine qr_cvi (n := 13) 0 [.int x2] (dkX12_loudest (i := 6) rfl) rfl kvX12_393 rfl rfl (Nat.le_of_ble_eq_true rfl) rfl rfl lmO rfl (wX12_isPlace G S0 x2) (fun r_2 => ?_)
    refine qr_if_ne (t := 18) (n := 16) (dkX12_loudest (i := 7) rfl) (by decide) rfl ?_ ?_
    · refine qr_aload_n (n := 19) 0 (dkX12_loudest (i := 10) rfl) rfl rfl ?_
      refine qr_cvu (n := 22) 0 [] (dkX12_loudest (i := 11) rfl) rfl kvX12_384 rfl rfl (Nat.le_of_ble_eq_true rfl) rfl rfl lmO rfl (wX12_copies G S0) (fun S_1 => ?_)
      refine qr_iconst (n := 23) 0 (dkX12_loudest (i := 12) rfl) rfl (by decide) ?_
      refine qr_istore_n (n := 24) (lv2 := [(0, .ref (G.2.2.1 0)), (1, .int x1), (2, .int x2), (3, .int 0)]) [1, 2, 3, 0] (dkX12_loudest (i := 13) rfl) rfl rfl (by decide) rfl ?_
      refine qr_iconst (n := 25) 0 (dkX12_loudest (i := 14) rfl) rfl (by decide) ?_
      refine qr_istore (n := 27) (lv2 := [(0, .ref (G.2.2.1 0)), (1, .int x1), (2, .int x2), (3, .int 0), (4, .int 0)]) [1, 2, 3, 4, 0] (dkX12_loudest (i := 15) rfl) rfl (by decide) rfl ?_
      refine qr_lp3 (fun (S_2 : qv_St) (x3_1 : Int32) (x4_1 : Int32) => [(0, .ref (G.2.2.1 0)), (1, .int x1), (2, .int x2), (3, .int x3_1), (4, .int x4_1)]) (fun (S_2 : qv_St) (x3_1 : Int32) (x4_1 : Int32) => S_2) (fun self_1 hself_1 S_2 x3_1 x4_1 => ?_) qv_N S_1 0 0
      refine qr_iload (n := 29) 4 (dkX12_loudest (i := 16) rfl) rfl rfl ?_
      refine qr_sipush (n := 32) 300 (dkX12_loudest (i := 17) rfl) rfl (by decide) ?_
      refine qr_icmp_ge (t := 62) (n := 35) (dkX12_loudest (i := 18) rfl) (by decide) rfl ?_ ?_
      · refine qr_iload_n (n := 63) 3 (dkX12_loudest (i := 33) rfl) rfl rfl ?_
        exact qr_iret (dkX12_loudest (i := 34) rfl) rfl rfl
      · refine qr_aload_n (n := 36) 0 (dkX12_loudest (i := 19) rfl) rfl rfl ?_
        refine qr_iload_n (n := 37) 1 (dkX12_loudest (i := 20) rfl) rfl rfl ?_
        refine qr_iload_n (n := 38) 2 (dkX12_loudest (i := 21) rfl) rfl rfl ?_
        refine qr_aload_n (n := 39) 0 (dkX12_loudest (i := 22) rfl) rfl rfl ?_
        refine qr_geta (n := 42) 0 54 37 (dkX12_loudest (i := 23) rfl) rfl lmO rfl gnX12 (Nat.le_of_ble_eq_true rfl) kfX12_128 rfl ?_
        refine qr_iconst (n := 43) 0 (dkX12_loudest (i := 24) rfl) rfl (by decide) ?_
        refine qr_iald (n := 44) 37 32 (dkX12_loudest (i := 25) rfl) rfl lmA_37 ?_
        refine qr_iload (n := 46) 4 (dkX12_loudest (i := 26) rfl) rfl rfl ?_
        refine qr_iadd (n := 47) (dkX12_loudest (i := 27) rfl) rfl ?_
        refine qr_cvm (n := 50) 0 [.int x1, .int x2, .int ((S_2.1 37 (Int32.toNatClampNeg 0)) + x4_1)] (dkX12_loudest (i := 28) rfl) rfl kvX12_417 rfl rfl (Nat.le_of_ble_eq_true rfl) rfl rfl lmO rfl (wX12_isLoudest G S_2 x1 x2 ((S_2.1 37 (Int32.toNatClampNeg 0)) + x4_1)) (fun S_3 r_3 => ?_)
        refine qr_j (fun K_1 : Int32 → Option (qv_St × Int32) => ∀ (x3_2 : Int32), VV G Lm X RX12 cX12_loudest 5 (some .int) 8 qe_m 56 [(0, .ref (G.2.2.1 0)), (1, .int x1), (2, .int x2), (3, .int x3_2), (4, .int x4_1)] [] S_3 (K_1 x3_2)) (fun x3_2 => ?_) (fun K_1 hK_1 => ?_)
        · refine qr_iinc (n := 59) (v := 1) (lv2 := [(0, .ref (G.2.2.1 0)), (1, .int x1), (2, .int x2), (3, .int x3_2), (4, .int (x4_1 + 1))]) 4 [1, 2, 3, 4, 0] (dkX12_loudest (i := 31) rfl) rfl rfl (by decide) (by decide) rfl ?_
          refine qr_goto (n := 27) (dkX12_loudest (i := 32) rfl) (by decide) ?_
          exact hself_1 S_3 x3_2 (x4_1 + 1)
        · refine qr_if_eq (t := 56) (n := 53) (dkX12_loudest (i := 29) rfl) (by decide) rfl ?_ ?_
          · exact hK_1 x3_1
          · refine qr_iinc (n := 56) (v := 1) (lv2 := [(0, .ref (G.2.2.1 0)), (1, .int x1), (2, .int x2), (3, .int (x3_1 + 1)), (4, .int x4_1)]) 3 [1, 2, 3, 0, 4] (dkX12_loudest (i := 30) rfl) rfl rfl (by decide) (by decide) rfl ?_
            exact hK_1 (x3_1 + 1)
    · refine qr_iconst (n := 17) (-1) (dkX12_loudest (i := 8) rfl) rfl (by decide) ?_
      exact qr_iret (dkX12_loudest (i := 9) rfl) rfl rfl
def tbX12_peak : List (Nat × Instr × Nat) := [(0, .aload_n 0, 1), (1, .iload_n 1, 1), (2, .invokevirtual 393, 3), (5, .ifCond .eq 12, 3), (8, .iload_n 2, 1), (9, .iconst 0, 1), (10, .iconst 1, 1), (11, .invokestatic 319, 3), (14, .ifCond .ne 5, 3), (17, .iconst (-1), 1), (18, .ireturn, 1), (19, .aload_n 0, 1), (20, .invokevirtual 384, 3), (23, .aload_n 0, 1), (24, .iload_n 1, 1), (25, .sipush 300, 3), (28, .invokevirtual 396, 3), (31, .iconst 0, 1), (32, .istore_n 3, 1), (33, .iconst 1, 1), (34, .istore 4, 2), (36, .iload 4, 2), (38, .sipush 300, 3), (41, .if_icmp .ge 28, 3), (44, .aload_n 0, 1), (45, .getfield 131, 3), (48, .iload 4, 2), (50, .iaload, 1), (51, .aload_n 0, 1), (52, .getfield 131, 3), (55, .iload_n 3, 1), (56, .iaload, 1), (57, .if_icmp .le 6, 3), (60, .iload 4, 2), (62, .istore_n 3, 1), (63, .iinc 4 1, 3), (66, .goto (-30), 3), (69, .iload_n 2, 1), (70, .ifCond .ne 12, 3), (73, .aload_n 0, 1), (74, .getfield 131, 3), (77, .iload_n 3, 1), (78, .iaload, 1), (79, .goto 4, 3), (82, .iload_n 3, 1), (83, .ireturn, 1)]
set_option maxRecDepth 20000 in
theorem daX12_peak : ∀ x ∈ tbX12_peak, decode cX12_peak x.1 = .ok x.2 := by decide +kernel
theorem dkX12_peak {i pc n : Nat} {ins : Instr} (h : tbX12_peak[i]? = some (pc, ins, n)) : decode cX12_peak pc = .ok (ins, n) := daX12_peak (pc, ins, n) (List.mem_of_getElem? h)
def fX12_peak (S0 : qv_St) (x1 : Int32) (x2 : Int32) : Option (qv_St × Int32) :=
  (fX12_isPlace S0 x1).bind fun r_1 =>
  if r_1 = 0 then
    some (S0, (-1))
  else
    (fX12_in x2 0 1).bind fun r_2 =>
    if r_2 = 0 then
      some (S0, (-1))
    else
      (fX12_copies S0).bind fun S_1 =>
      (fX12_fillsLoud S_1 x1 300).bind fun S_2 =>
      qv_j (fun (x3_1 : Int32) =>
        if x2 = 0 then
          qv_ck x3_1 1620 <|
          some (S_2, (S_2.1 38 (Int32.toNatClampNeg x3_1)))
        else
          some (S_2, x3_1)) fun K_1 =>
      qv_lp2 qv_N (fun self_1 (x3_2 : Int32) (x4_1 : Int32) =>
        if 300 ≤ x4_1 then
          K_1 x3_2
        else
          qv_ck x4_1 1620 <|
          qv_ck x3_2 1620 <|
          qv_j (fun (x3_3 : Int32) =>
            self_1 x3_3 (x4_1 + 1)) fun K_2 =>
          if (S_2.1 38 (Int32.toNatClampNeg x4_1)) ≤ (S_2.1 38 (Int32.toNatClampNeg x3_2)) then
            K_2 x3_2
          else
            K_2 x4_1) 0 1
set_option maxRecDepth 20000 in
set_option maxHeartbeats 4000000 in
theorem wX12_peak (G : qv_GT) (S0 : qv_St) (x1 : Int32) (x2 : Int32) : ∀ r, fX12_peak S0 x1 x2 = some r → Cn G Lm yX12_peak cX12_peak 5 (some .int) 10 [.ref (G.2.2.1 0), .int x1, .int x2] S0 (qe_m r) := by
  refine cn_of (own := RX12) (emb := qe_m) (lv := [(0, .ref (G.2.2.1 0)), (1, .int x1), (2, .int x2)]) rfl rfl (Nat.le_of_ble_eq_true rfl) rfl (fun X => ?_)
  unfold fX12_peak
  refine qr_aload_n (n := 1) 0 (dkX12_peak (i := 0) rfl) rfl rfl ?_
  refine qr_iload_n (n := 2) 1 (dkX12_peak (i := 1) rfl) rfl rfl ?_
  refine qr_cvi (n := 5) 0 [.int x1] (dkX12_peak (i := 2) rfl) rfl kvX12_393 rfl rfl (Nat.le_of_ble_eq_true rfl) rfl rfl lmO rfl (wX12_isPlace G S0 x1) (fun r_1 => ?_)
  refine qr_if_eq (t := 17) (n := 8) (dkX12_peak (i := 3) rfl) (by decide) rfl ?_ ?_
  · refine qr_iconst (n := 18) (-1) (dkX12_peak (i := 9) rfl) rfl (by decide) ?_
    exact qr_iret (dkX12_peak (i := 10) rfl) rfl rfl
  · refine qr_iload_n (n := 9) 2 (dkX12_peak (i := 4) rfl) rfl rfl ?_
    refine qr_iconst (n := 10) 0 (dkX12_peak (i := 5) rfl) rfl (by decide) ?_
    refine qr_iconst (n := 11) 1 (dkX12_peak (i := 6) rfl) rfl (by decide) ?_
    refine qr_csi (n := 14) [.int x2, .int 0, .int 1] (dkX12_peak (i := 7) rfl) rfl kvX12_319 rfl rfl (Nat.le_of_ble_eq_true rfl) rfl rfl (wX12_in G S0 x2 0 1) (fun r_2 => ?_)
    refine qr_if_ne (t := 19) (n := 17) (dkX12_peak (i := 8) rfl) (by decide) rfl ?_ ?_
    · refine qr_aload_n (n := 20) 0 (dkX12_peak (i := 11) rfl) rfl rfl ?_
      refine qr_cvu (n := 23) 0 [] (dkX12_peak (i := 12) rfl) rfl kvX12_384 rfl rfl (Nat.le_of_ble_eq_true rfl) rfl rfl lmO rfl (wX12_copies G S0) (fun S_1 => ?_)
      refine qr_aload_n (n := 24) 0 (dkX12_peak (i := 13) rfl) rfl rfl ?_
      refine qr_iload_n (n := 25) 1 (dkX12_peak (i := 14) rfl) rfl rfl ?_
      refine qr_sipush (n := 28) 300 (dkX12_peak (i := 15) rfl) rfl (by decide) ?_
      refine qr_cvu (n := 31) 0 [.int x1, .int 300] (dkX12_peak (i := 16) rfl) rfl kvX12_396 rfl rfl (Nat.le_of_ble_eq_true rfl) rfl rfl lmO rfl (wX12_fillsLoud G S_1 x1 300) (fun S_2 => ?_)
      refine qr_iconst (n := 32) 0 (dkX12_peak (i := 17) rfl) rfl (by decide) ?_
      refine qr_istore_n (n := 33) (lv2 := [(0, .ref (G.2.2.1 0)), (1, .int x1), (2, .int x2), (3, .int 0)]) [1, 2, 3, 0] (dkX12_peak (i := 18) rfl) rfl rfl (by decide) rfl ?_
      refine qr_iconst (n := 34) 1 (dkX12_peak (i := 19) rfl) rfl (by decide) ?_
      refine qr_istore (n := 36) (lv2 := [(0, .ref (G.2.2.1 0)), (1, .int x1), (2, .int x2), (3, .int 0), (4, .int 1)]) [1, 2, 3, 4, 0] (dkX12_peak (i := 20) rfl) rfl (by decide) rfl ?_
      refine qr_sub [0, 2, 3, 4] rfl ?_
      refine qr_j (fun K_1 : Int32 → Option (qv_St × Int32) => ∀ (x3_1 : Int32), VV G Lm X RX12 cX12_peak 5 (some .int) 10 qe_m 69 [(0, .ref (G.2.2.1 0)), (2, .int x2), (3, .int x3_1)] [] S_2 (K_1 x3_1)) (fun x3_1 => ?_) (fun K_1 hK_1 => ?_)
      · refine qr_iload_n (n := 70) 1 (dkX12_peak (i := 37) rfl) rfl rfl ?_
        refine qr_if_ne (t := 82) (n := 73) (dkX12_peak (i := 38) rfl) (by decide) rfl ?_ ?_
        · refine qr_iload_n (n := 83) 2 (dkX12_peak (i := 44) rfl) rfl rfl ?_
          exact qr_iret (dkX12_peak (i := 45) rfl) rfl rfl
        · refine qr_aload_n (n := 74) 0 (dkX12_peak (i := 39) rfl) rfl rfl ?_
          refine qr_geta (n := 77) 0 56 38 (dkX12_peak (i := 40) rfl) rfl lmO rfl gnX12 (Nat.le_of_ble_eq_true rfl) kfX12_131 rfl ?_
          refine qr_iload_n (n := 78) 2 (dkX12_peak (i := 41) rfl) rfl rfl ?_
          refine qr_iald (n := 79) 38 1620 (dkX12_peak (i := 42) rfl) rfl lmA_38 ?_
          refine qr_goto (n := 83) (dkX12_peak (i := 43) rfl) (by decide) ?_
          exact qr_iret (dkX12_peak (i := 45) rfl) rfl rfl
      · refine qr_lp2 (fun (x3_2 : Int32) (x4_1 : Int32) => [(0, .ref (G.2.2.1 0)), (2, .int x2), (3, .int x3_2), (4, .int x4_1)]) (fun (x3_2 : Int32) (x4_1 : Int32) => S_2) (fun self_1 hself_1 x3_2 x4_1 => ?_) qv_N 0 1
        refine qr_iload (n := 38) 3 (dkX12_peak (i := 21) rfl) rfl rfl ?_
        refine qr_sipush (n := 41) 300 (dkX12_peak (i := 22) rfl) rfl (by decide) ?_
        refine qr_icmp_ge (t := 69) (n := 44) (dkX12_peak (i := 23) rfl) (by decide) rfl ?_ ?_
        · refine qr_sub [0, 1, 2] rfl ?_
          exact hK_1 x3_2
        · refine qr_aload_n (n := 45) 0 (dkX12_peak (i := 24) rfl) rfl rfl ?_
          refine qr_geta (n := 48) 0 56 38 (dkX12_peak (i := 25) rfl) rfl lmO rfl gnX12 (Nat.le_of_ble_eq_true rfl) kfX12_131 rfl ?_
          refine qr_iload (n := 50) 3 (dkX12_peak (i := 26) rfl) rfl rfl ?_
          refine qr_iald (n := 51) 38 1620 (dkX12_peak (i := 27) rfl) rfl lmA_38 ?_
          refine qr_aload_n (n := 52) 0 (dkX12_peak (i := 28) rfl) rfl rfl ?_
          refine qr_geta (n := 55) 0 56 38 (dkX12_peak (i := 29) rfl) rfl lmO rfl gnX12 (Nat.le_of_ble_eq_true rfl) kfX12_131 rfl ?_
          refine qr_iload_n (n := 56) 2 (dkX12_peak (i := 30) rfl) rfl rfl ?_
          refine qr_iald (n := 57) 38 1620 (dkX12_peak (i := 31) rfl) rfl lmA_38 ?_
          refine qr_j (fun K_2 : Int32 → Option (qv_St × Int32) => ∀ (x3_3 : Int32), VV G Lm X RX12 cX12_peak 5 (some .int) 10 qe_m 63 [(0, .ref (G.2.2.1 0)), (2, .int x2), (3, .int x3_3), (4, .int x4_1)] [] S_2 (K_2 x3_3)) (fun x3_3 => ?_) (fun K_2 hK_2 => ?_)
          · refine qr_iinc (n := 66) (v := 1) (lv2 := [(0, .ref (G.2.2.1 0)), (2, .int x2), (3, .int x3_3), (4, .int (x4_1 + 1))]) 3 [1, 2, 3, 0] (dkX12_peak (i := 35) rfl) rfl rfl (by decide) (by decide) rfl ?_
            refine qr_goto (n := 36) (dkX12_peak (i := 36) rfl) (by decide) ?_
            exact hself_1 x3_3 (x4_1 + 1)
          · refine qr_icmp_le (t := 63) (n := 60) (dkX12_peak (i := 32) rfl) (by decide) rfl ?_ ?_
            · exact hK_2 x3_2
            · refine qr_iload (n := 62) 3 (dkX12_peak (i := 33) rfl) rfl rfl ?_
              refine qr_istore_n (n := 63) (lv2 := [(0, .ref (G.2.2.1 0)), (2, .int x2), (3, .int x4_1), (4, .int x4_1)]) [1, 2, 0, 3] (dkX12_peak (i := 34) rfl) rfl rfl (by decide) rfl ?_
              exact hK_2 x4_1
    · refine qr_iconst (n := 18) (-1) (dkX12_peak (i := 9) rfl) rfl (by decide) ?_
      exact qr_iret (dkX12_peak (i := 10) rfl) rfl rfl
def tbX12_calmest : List (Nat × Instr × Nat) := [(0, .iload_n 1, 1), (1, .iconst 1, 1), (2, .sipush 300, 3), (5, .invokestatic 319, 3), (8, .ifCond .ne 5, 3), (11, .iconst (-1), 1), (12, .ireturn, 1), (13, .aload_n 0, 1), (14, .invokevirtual 384, 3), (17, .bipush (-2), 2), (19, .istore_n 2, 1), (20, .iconst 0, 1), (21, .istore_n 3, 1), (22, .iconst 0, 1), (23, .istore 4, 2), (25, .iload 4, 2), (27, .aload_n 0, 1), (28, .getfield 65, 3), (31, .aload_n 0, 1), (32, .getfield 242, 3), (35, .iaload, 1), (36, .if_icmp .ge 43, 3), (39, .aload_n 0, 1), (40, .iload 4, 2), (42, .iload_n 1, 1), (43, .invokevirtual 396, 3), (46, .aload_n 0, 1), (47, .iconst 0, 1), (48, .iload_n 1, 1), (49, .invokevirtual 414, 3), (52, .istore 5, 2), (54, .iload_n 2, 1), (55, .ifCond .lt 12, 3), (58, .iload 5, 2), (60, .iload_n 3, 1), (61, .if_icmp .lt 6, 3), (64, .goto 9, 3), (67, .iload 4, 2), (69, .istore_n 2, 1), (70, .iload 5, 2), (72, .istore_n 3, 1), (73, .iinc 4 1, 3), (76, .goto (-51), 3), (79, .iload_n 2, 1), (80, .ireturn, 1)]
set_option maxRecDepth 20000 in
theorem daX12_calmest : ∀ x ∈ tbX12_calmest, decode cX12_calmest x.1 = .ok x.2 := by decide +kernel
theorem dkX12_calmest {i pc n : Nat} {ins : Instr} (h : tbX12_calmest[i]? = some (pc, ins, n)) : decode cX12_calmest pc = .ok (ins, n) := daX12_calmest (pc, ins, n) (List.mem_of_getElem? h)
def fX12_calmest (S0 : qv_St) (x1 : Int32) : Option (qv_St × Int32) :=
  (fX12_in x1 1 300).bind fun r_1 =>
  if r_1 = 0 then
    some (S0, (-1))
  else
    (fX12_copies S0).bind fun S_1 =>
    qv_lp4 qv_N (fun self_1 (S_2 : qv_St) (x2_1 : Int32) (x3_1 : Int32) (x4_1 : Int32) =>
      qv_ck (S_2.1 0 18) 2 <|
      if (S_2.1 16 (Int32.toNatClampNeg (S_2.1 0 18))) ≤ x4_1 then
        some (S_2, x2_1)
      else
        (fX12_fillsLoud S_2 x4_1 x1).bind fun S_3 =>
        (fX12_mostIn S_3 0 x1).bind fun r_2 =>
        qv_j (fun (x2_2 : Int32) (x3_2 : Int32) =>
          self_1 S_3 x2_2 x3_2 (x4_1 + 1)) fun K_1 =>
        qv_j (
          K_1 x4_1 r_2) fun K_2 =>
        if x2_1 < 0 then
          K_2
        else
          if r_2 < x3_1 then
            K_2
          else
            K_1 x2_1 x3_1) S_1 (-2) 0 0
set_option maxRecDepth 20000 in
set_option maxHeartbeats 4000000 in
theorem wX12_calmest (G : qv_GT) (S0 : qv_St) (x1 : Int32) : ∀ r, fX12_calmest S0 x1 = some r → Cn G Lm yX12_calmest cX12_calmest 6 (some .int) 10 [.ref (G.2.2.1 0), .int x1] S0 (qe_m r) := by
  refine cn_of (own := RX12) (emb := qe_m) (lv := [(0, .ref (G.2.2.1 0)), (1, .int x1)]) rfl rfl (Nat.le_of_ble_eq_true rfl) rfl (fun X => ?_)
  unfold fX12_calmest
  refine qr_iload_n (n := 1) 1 (dkX12_calmest (i := 0) rfl) rfl rfl ?_
  refine qr_iconst (n := 2) 1 (dkX12_calmest (i := 1) rfl) rfl (by decide) ?_
  refine qr_sipush (n := 5) 300 (dkX12_calmest (i := 2) rfl) rfl (by decide) ?_
  refine qr_csi (n := 8) [.int x1, .int 1, .int 300] (dkX12_calmest (i := 3) rfl) rfl kvX12_319 rfl rfl (Nat.le_of_ble_eq_true rfl) rfl rfl (wX12_in G S0 x1 1 300) (fun r_1 => ?_)
  refine qr_if_ne (t := 13) (n := 11) (dkX12_calmest (i := 4) rfl) (by decide) rfl ?_ ?_
  · refine qr_aload_n (n := 14) 0 (dkX12_calmest (i := 7) rfl) rfl rfl ?_
    refine qr_cvu (n := 17) 0 [] (dkX12_calmest (i := 8) rfl) rfl kvX12_384 rfl rfl (Nat.le_of_ble_eq_true rfl) rfl rfl lmO rfl (wX12_copies G S0) (fun S_1 => ?_)
    refine qr_bipush (n := 19) (-2) (dkX12_calmest (i := 9) rfl) rfl (by decide) ?_
    refine qr_istore_n (n := 20) (lv2 := [(0, .ref (G.2.2.1 0)), (1, .int x1), (2, .int (-2))]) [1, 2, 0] (dkX12_calmest (i := 10) rfl) rfl rfl (by decide) rfl ?_
    refine qr_iconst (n := 21) 0 (dkX12_calmest (i := 11) rfl) rfl (by decide) ?_
    refine qr_istore_n (n := 22) (lv2 := [(0, .ref (G.2.2.1 0)), (1, .int x1), (2, .int (-2)), (3, .int 0)]) [1, 2, 3, 0] (dkX12_calmest (i := 12) rfl) rfl rfl (by decide) rfl ?_
    refine qr_iconst (n := 23) 0 (dkX12_calmest (i := 13) rfl) rfl (by decide) ?_
    refine qr_istore (n := 25) (lv2 := [(0, .ref (G.2.2.1 0)), (1, .int x1), (2, .int (-2)), (3, .int 0), (4, .int 0)]) [1, 2, 3, 4, 0] (dkX12_calmest (i := 14) rfl) rfl (by decide) rfl ?_
    refine qr_lp4 (fun (S_2 : qv_St) (x2_1 : Int32) (x3_1 : Int32) (x4_1 : Int32) => [(0, .ref (G.2.2.1 0)), (1, .int x1), (2, .int x2_1), (3, .int x3_1), (4, .int x4_1)]) (fun (S_2 : qv_St) (x2_1 : Int32) (x3_1 : Int32) (x4_1 : Int32) => S_2) (fun self_1 hself_1 S_2 x2_1 x3_1 x4_1 => ?_) qv_N S_1 (-2) 0 0
    refine qr_iload (n := 27) 4 (dkX12_calmest (i := 15) rfl) rfl rfl ?_
    refine qr_aload_n (n := 28) 0 (dkX12_calmest (i := 16) rfl) rfl rfl ?_
    refine qr_geta (n := 31) 0 29 16 (dkX12_calmest (i := 17) rfl) rfl lmO rfl gnX12 (Nat.le_of_ble_eq_true rfl) kfX12_65 rfl ?_
    refine qr_aload_n (n := 32) 0 (dkX12_calmest (i := 18) rfl) rfl rfl ?_
    refine qr_geti (n := 35) 0 18 (dkX12_calmest (i := 19) rfl) rfl lmO rfl gnX12 (Nat.le_of_ble_eq_true rfl) kfX12_242 rfl ?_
    refine qr_iald (n := 36) 16 2 (dkX12_calmest (i := 20) rfl) rfl lmA_16 ?_
    refine qr_icmp_ge (t := 79) (n := 39) (dkX12_calmest (i := 21) rfl) (by decide) rfl ?_ ?_
    · refine qr_iload_n (n := 80) 2 (dkX12_calmest (i := 43) rfl) rfl rfl ?_
      exact qr_iret (dkX12_calmest (i := 44) rfl) rfl rfl
    · refine qr_aload_n (n := 40) 0 (dkX12_calmest (i := 22) rfl) rfl rfl ?_
      refine qr_iload (n := 42) 4 (dkX12_calmest (i := 23) rfl) rfl rfl ?_
      refine qr_iload_n (n := 43) 1 (dkX12_calmest (i := 24) rfl) rfl rfl ?_
      refine qr_cvu (n := 46) 0 [.int x4_1, .int x1] (dkX12_calmest (i := 25) rfl) rfl kvX12_396 rfl rfl (Nat.le_of_ble_eq_true rfl) rfl rfl lmO rfl (wX12_fillsLoud G S_2 x4_1 x1) (fun S_3 => ?_)
      refine qr_aload_n (n := 47) 0 (dkX12_calmest (i := 26) rfl) rfl rfl ?_
      refine qr_iconst (n := 48) 0 (dkX12_calmest (i := 27) rfl) rfl (by decide) ?_
      refine qr_iload_n (n := 49) 1 (dkX12_calmest (i := 28) rfl) rfl rfl ?_
      refine qr_cvi (n := 52) 0 [.int 0, .int x1] (dkX12_calmest (i := 29) rfl) rfl kvX12_414 rfl rfl (Nat.le_of_ble_eq_true rfl) rfl rfl lmO rfl (wX12_mostIn G S_3 0 x1) (fun r_2 => ?_)
      refine qr_istore (n := 54) (lv2 := [(0, .ref (G.2.2.1 0)), (1, .int x1), (2, .int x2_1), (3, .int x3_1), (4, .int x4_1), (5, .int r_2)]) [1, 2, 3, 4, 5, 0] (dkX12_calmest (i := 30) rfl) rfl (by decide) rfl ?_
      refine qr_iload_n (n := 55) 2 (dkX12_calmest (i := 31) rfl) rfl rfl ?_
      refine qr_j (fun K_1 : Int32 → Int32 → Option (qv_St × Int32) => ∀ (x2_2 : Int32) (x3_2 : Int32), VV G Lm X RX12 cX12_calmest 6 (some .int) 10 qe_m 73 [(0, .ref (G.2.2.1 0)), (1, .int x1), (2, .int x2_2), (3, .int x3_2), (4, .int x4_1)] [] S_3 (K_1 x2_2 x3_2)) (fun x2_2 x3_2 => ?_) (fun K_1 hK_1 => ?_)
      · refine qr_iinc (n := 76) (v := 1) (lv2 := [(0, .ref (G.2.2.1 0)), (1, .int x1), (2, .int x2_2), (3, .int x3_2), (4, .int (x4_1 + 1))]) 4 [1, 2, 3, 4, 0] (dkX12_calmest (i := 41) rfl) rfl rfl (by decide) (by decide) rfl ?_
        refine qr_goto (n := 25) (dkX12_calmest (i := 42) rfl) (by decide) ?_
        exact hself_1 S_3 x2_2 x3_2 (x4_1 + 1)
      · refine qr_j (fun K_2 : Option (qv_St × Int32) => VV G Lm X RX12 cX12_calmest 6 (some .int) 10 qe_m 67 [(0, .ref (G.2.2.1 0)), (1, .int x1), (4, .int x4_1), (5, .int r_2)] [] S_3 (K_2)) (?_) (fun K_2 hK_2 => ?_)
        · refine qr_iload (n := 69) 2 (dkX12_calmest (i := 37) rfl) rfl rfl ?_
          refine qr_istore_n (n := 70) (lv2 := [(0, .ref (G.2.2.1 0)), (1, .int x1), (2, .int x4_1), (4, .int x4_1), (5, .int r_2)]) [1, 2, 0, 3, 4] (dkX12_calmest (i := 38) rfl) rfl rfl (by decide) rfl ?_
          refine qr_iload (n := 72) 4 (dkX12_calmest (i := 39) rfl) rfl rfl ?_
          refine qr_istore_n (n := 73) (lv2 := [(0, .ref (G.2.2.1 0)), (1, .int x1), (2, .int x4_1), (3, .int r_2), (4, .int x4_1), (5, .int r_2)]) [1, 2, 3, 0, 4, 5] (dkX12_calmest (i := 40) rfl) rfl rfl (by decide) rfl ?_
          refine qr_sub [0, 1, 2, 3, 4] rfl ?_
          exact hK_1 x4_1 r_2
        · refine qr_if_lt (t := 67) (n := 58) (dkX12_calmest (i := 32) rfl) (by decide) rfl ?_ ?_
          · refine qr_sub [0, 1, 4, 5] rfl ?_
            exact hK_2
          · refine qr_iload (n := 60) 5 (dkX12_calmest (i := 33) rfl) rfl rfl ?_
            refine qr_iload_n (n := 61) 3 (dkX12_calmest (i := 34) rfl) rfl rfl ?_
            refine qr_icmp_lt (t := 67) (n := 64) (dkX12_calmest (i := 35) rfl) (by decide) rfl ?_ ?_
            · refine qr_sub [0, 1, 4, 5] rfl ?_
              exact hK_2
            · refine qr_goto (n := 73) (dkX12_calmest (i := 36) rfl) (by decide) ?_
              refine qr_sub [0, 1, 2, 3, 4] rfl ?_
              exact hK_1 x2_1 x3_1
  · refine qr_iconst (n := 12) (-1) (dkX12_calmest (i := 5) rfl) rfl (by decide) ?_
    exact qr_iret (dkX12_calmest (i := 6) rfl) rfl rfl
def tbX12_ours : List (Nat × Instr × Nat) := [(0, .aload_n 0, 1), (1, .iload_n 1, 1), (2, .invokevirtual 393, 3), (5, .ifCond .ne 5, 3), (8, .iconst (-1), 1), (9, .ireturn, 1), (10, .aload_n 0, 1), (11, .invokevirtual 384, 3), (14, .iconst 0, 1), (15, .istore_n 2, 1), (16, .iconst 0, 1), (17, .istore_n 3, 1), (18, .iload_n 3, 1), (19, .sipush 300, 3), (22, .if_icmp .ge 40, 3), (25, .aload_n 0, 1), (26, .aload_n 0, 1), (27, .getfield 128, 3), (30, .iconst 0, 1), (31, .iaload, 1), (32, .iload_n 3, 1), (33, .iadd, 1), (34, .invokevirtual 362, 3), (37, .aload_n 0, 1), (38, .iload_n 1, 1), (39, .aload_n 0, 1), (40, .getfield 128, 3), (43, .iconst 0, 1), (44, .iaload, 1), (45, .iload_n 3, 1), (46, .iadd, 1), (47, .invokevirtual 359, 3), (50, .if_icmp .le 6, 3), (53, .iinc 2 1, 3), (56, .iinc 3 1, 3), (59, .goto (-41), 3), (62, .iload_n 2, 1), (63, .ireturn, 1)]
set_option maxRecDepth 20000 in
theorem daX12_ours : ∀ x ∈ tbX12_ours, decode cX12_ours x.1 = .ok x.2 := by decide +kernel
theorem dkX12_ours {i pc n : Nat} {ins : Instr} (h : tbX12_ours[i]? = some (pc, ins, n)) : decode cX12_ours pc = .ok (ins, n) := daX12_ours (pc, ins, n) (List.mem_of_getElem? h)
def fX12_ours (S0 : qv_St) (x1 : Int32) : Option (qv_St × Int32) :=
  (fX12_isPlace S0 x1).bind fun r_1 =>
  if r_1 = 0 then
    some (S0, (-1))
  else
    (fX12_copies S0).bind fun S_1 =>
    qv_lp3 qv_N (fun self_1 (S_2 : qv_St) (x2_1 : Int32) (x3_1 : Int32) =>
      if 300 ≤ x3_1 then
        some (S_2, x2_1)
      else
        qv_ck 0 32 <|
        qv_cm (fX12_rustling S_2 ((S_2.1 37 (Int32.toNatClampNeg 0)) + x3_1)) fun S_3 r_2 =>
        qv_ck 0 32 <|
        qv_cm (fX12_mostHeard S_3 x1 ((S_3.1 37 (Int32.toNatClampNeg 0)) + x3_1)) fun S_4 r_3 =>
        qv_j (fun (x2_2 : Int32) =>
          self_1 S_4 x2_2 (x3_1 + 1)) fun K_1 =>
        if r_2 ≤ r_3 then
          K_1 x2_1
        else
          K_1 (x2_1 + 1)) S_1 0 0
set_option maxRecDepth 20000 in
set_option maxHeartbeats 4000000 in
theorem wX12_ours (G : qv_GT) (S0 : qv_St) (x1 : Int32) : ∀ r, fX12_ours S0 x1 = some r → Cn G Lm yX12_ours cX12_ours 4 (some .int) 8 [.ref (G.2.2.1 0), .int x1] S0 (qe_m r) := by
  refine cn_of (own := RX12) (emb := qe_m) (lv := [(0, .ref (G.2.2.1 0)), (1, .int x1)]) rfl rfl (Nat.le_of_ble_eq_true rfl) rfl (fun X => ?_)
  unfold fX12_ours
  refine qr_aload_n (n := 1) 0 (dkX12_ours (i := 0) rfl) rfl rfl ?_
  refine qr_iload_n (n := 2) 1 (dkX12_ours (i := 1) rfl) rfl rfl ?_
  refine qr_cvi (n := 5) 0 [.int x1] (dkX12_ours (i := 2) rfl) rfl kvX12_393 rfl rfl (Nat.le_of_ble_eq_true rfl) rfl rfl lmO rfl (wX12_isPlace G S0 x1) (fun r_1 => ?_)
  refine qr_if_ne (t := 10) (n := 8) (dkX12_ours (i := 3) rfl) (by decide) rfl ?_ ?_
  · refine qr_aload_n (n := 11) 0 (dkX12_ours (i := 6) rfl) rfl rfl ?_
    refine qr_cvu (n := 14) 0 [] (dkX12_ours (i := 7) rfl) rfl kvX12_384 rfl rfl (Nat.le_of_ble_eq_true rfl) rfl rfl lmO rfl (wX12_copies G S0) (fun S_1 => ?_)
    refine qr_iconst (n := 15) 0 (dkX12_ours (i := 8) rfl) rfl (by decide) ?_
    refine qr_istore_n (n := 16) (lv2 := [(0, .ref (G.2.2.1 0)), (1, .int x1), (2, .int 0)]) [1, 2, 0] (dkX12_ours (i := 9) rfl) rfl rfl (by decide) rfl ?_
    refine qr_iconst (n := 17) 0 (dkX12_ours (i := 10) rfl) rfl (by decide) ?_
    refine qr_istore_n (n := 18) (lv2 := [(0, .ref (G.2.2.1 0)), (1, .int x1), (2, .int 0), (3, .int 0)]) [1, 2, 3, 0] (dkX12_ours (i := 11) rfl) rfl rfl (by decide) rfl ?_
    refine qr_lp3 (fun (S_2 : qv_St) (x2_1 : Int32) (x3_1 : Int32) => [(0, .ref (G.2.2.1 0)), (1, .int x1), (2, .int x2_1), (3, .int x3_1)]) (fun (S_2 : qv_St) (x2_1 : Int32) (x3_1 : Int32) => S_2) (fun self_1 hself_1 S_2 x2_1 x3_1 => ?_) qv_N S_1 0 0
    refine qr_iload_n (n := 19) 3 (dkX12_ours (i := 12) rfl) rfl rfl ?_
    refine qr_sipush (n := 22) 300 (dkX12_ours (i := 13) rfl) rfl (by decide) ?_
    refine qr_icmp_ge (t := 62) (n := 25) (dkX12_ours (i := 14) rfl) (by decide) rfl ?_ ?_
    · refine qr_iload_n (n := 63) 2 (dkX12_ours (i := 36) rfl) rfl rfl ?_
      exact qr_iret (dkX12_ours (i := 37) rfl) rfl rfl
    · refine qr_aload_n (n := 26) 0 (dkX12_ours (i := 15) rfl) rfl rfl ?_
      refine qr_aload_n (n := 27) 0 (dkX12_ours (i := 16) rfl) rfl rfl ?_
      refine qr_geta (n := 30) 0 54 37 (dkX12_ours (i := 17) rfl) rfl lmO rfl gnX12 (Nat.le_of_ble_eq_true rfl) kfX12_128 rfl ?_
      refine qr_iconst (n := 31) 0 (dkX12_ours (i := 18) rfl) rfl (by decide) ?_
      refine qr_iald (n := 32) 37 32 (dkX12_ours (i := 19) rfl) rfl lmA_37 ?_
      refine qr_iload_n (n := 33) 3 (dkX12_ours (i := 20) rfl) rfl rfl ?_
      refine qr_iadd (n := 34) (dkX12_ours (i := 21) rfl) rfl ?_
      refine qr_cvm (n := 37) 0 [.int ((S_2.1 37 (Int32.toNatClampNeg 0)) + x3_1)] (dkX12_ours (i := 22) rfl) rfl kvX12_362 rfl rfl (Nat.le_of_ble_eq_true rfl) rfl rfl lmO rfl (wX12_rustling G S_2 ((S_2.1 37 (Int32.toNatClampNeg 0)) + x3_1)) (fun S_3 r_2 => ?_)
      refine qr_aload_n (n := 38) 0 (dkX12_ours (i := 23) rfl) rfl rfl ?_
      refine qr_iload_n (n := 39) 1 (dkX12_ours (i := 24) rfl) rfl rfl ?_
      refine qr_aload_n (n := 40) 0 (dkX12_ours (i := 25) rfl) rfl rfl ?_
      refine qr_geta (n := 43) 0 54 37 (dkX12_ours (i := 26) rfl) rfl lmO rfl gnX12 (Nat.le_of_ble_eq_true rfl) kfX12_128 rfl ?_
      refine qr_iconst (n := 44) 0 (dkX12_ours (i := 27) rfl) rfl (by decide) ?_
      refine qr_iald (n := 45) 37 32 (dkX12_ours (i := 28) rfl) rfl lmA_37 ?_
      refine qr_iload_n (n := 46) 3 (dkX12_ours (i := 29) rfl) rfl rfl ?_
      refine qr_iadd (n := 47) (dkX12_ours (i := 30) rfl) rfl ?_
      refine qr_cvm (n := 50) 0 [.int x1, .int ((S_3.1 37 (Int32.toNatClampNeg 0)) + x3_1)] (dkX12_ours (i := 31) rfl) rfl kvX12_359 rfl rfl (Nat.le_of_ble_eq_true rfl) rfl rfl lmO rfl (wX12_mostHeard G S_3 x1 ((S_3.1 37 (Int32.toNatClampNeg 0)) + x3_1)) (fun S_4 r_3 => ?_)
      refine qr_j (fun K_1 : Int32 → Option (qv_St × Int32) => ∀ (x2_2 : Int32), VV G Lm X RX12 cX12_ours 4 (some .int) 8 qe_m 56 [(0, .ref (G.2.2.1 0)), (1, .int x1), (2, .int x2_2), (3, .int x3_1)] [] S_4 (K_1 x2_2)) (fun x2_2 => ?_) (fun K_1 hK_1 => ?_)
      · refine qr_iinc (n := 59) (v := 1) (lv2 := [(0, .ref (G.2.2.1 0)), (1, .int x1), (2, .int x2_2), (3, .int (x3_1 + 1))]) 3 [1, 2, 3, 0] (dkX12_ours (i := 34) rfl) rfl rfl (by decide) (by decide) rfl ?_
        refine qr_goto (n := 18) (dkX12_ours (i := 35) rfl) (by decide) ?_
        exact hself_1 S_4 x2_2 (x3_1 + 1)
      · refine qr_icmp_le (t := 56) (n := 53) (dkX12_ours (i := 32) rfl) (by decide) rfl ?_ ?_
        · exact hK_1 x2_1
        · refine qr_iinc (n := 56) (v := 1) (lv2 := [(0, .ref (G.2.2.1 0)), (1, .int x1), (2, .int (x2_1 + 1)), (3, .int x3_1)]) 2 [1, 2, 0, 3] (dkX12_ours (i := 33) rfl) rfl rfl (by decide) (by decide) rfl ?_
          exact hK_1 (x2_1 + 1)
  · refine qr_iconst (n := 9) (-1) (dkX12_ours (i := 4) rfl) rfl (by decide) ?_
    exact qr_iret (dkX12_ours (i := 5) rfl) rfl rfl
def tbX12_soonest : List (Nat × Instr × Nat) := [(0, .iload_n 2, 1), (1, .istore_n 3, 1), (2, .iload_n 3, 1), (3, .sipush 300, 3), (6, .if_icmp .gt 20, 3), (9, .aload_n 0, 1), (10, .iload_n 1, 1), (11, .iload_n 3, 1), (12, .invokevirtual 420, 3), (15, .ifCond .eq 5, 3), (18, .iload_n 3, 1), (19, .ireturn, 1), (20, .iinc 3 1, 3), (23, .goto (-21), 3), (26, .iconst (-1), 1), (27, .ireturn, 1)]
set_option maxRecDepth 20000 in
theorem daX12_soonest : ∀ x ∈ tbX12_soonest, decode cX12_soonest x.1 = .ok x.2 := by decide +kernel
theorem dkX12_soonest {i pc n : Nat} {ins : Instr} (h : tbX12_soonest[i]? = some (pc, ins, n)) : decode cX12_soonest pc = .ok (ins, n) := daX12_soonest (pc, ins, n) (List.mem_of_getElem? h)
def fX12_soonest (S0 : qv_St) (x1 : Int32) (x2 : Int32) : Option (qv_St × Int32) :=
  qv_lp2 qv_N (fun self_1 (S_1 : qv_St) (x3_1 : Int32) =>
    if 300 < x3_1 then
      some (S_1, (-1))
    else
      qv_cm (fX12_isGood S_1 x1 x3_1) fun S_2 r_1 =>
      if r_1 = 0 then
        self_1 S_2 (x3_1 + 1)
      else
        some (S_2, x3_1)) S0 x2
set_option maxRecDepth 20000 in
set_option maxHeartbeats 4000000 in
theorem wX12_soonest (G : qv_GT) (S0 : qv_St) (x1 : Int32) (x2 : Int32) : ∀ r, fX12_soonest S0 x1 x2 = some r → Cn G Lm yX12_soonest cX12_soonest 4 (some .int) 6 [.ref (G.2.2.1 0), .int x1, .int x2] S0 (qe_m r) := by
  refine cn_of (own := RX12) (emb := qe_m) (lv := [(0, .ref (G.2.2.1 0)), (1, .int x1), (2, .int x2)]) rfl rfl (Nat.le_of_ble_eq_true rfl) rfl (fun X => ?_)
  unfold fX12_soonest
  refine qr_iload_n (n := 1) 2 (dkX12_soonest (i := 0) rfl) rfl rfl ?_
  refine qr_istore_n (n := 2) (lv2 := [(0, .ref (G.2.2.1 0)), (1, .int x1), (2, .int x2), (3, .int x2)]) [1, 2, 3, 0] (dkX12_soonest (i := 1) rfl) rfl rfl (by decide) rfl ?_
  refine qr_sub [0, 1, 3] rfl ?_
  refine qr_lp2 (fun (S_1 : qv_St) (x3_1 : Int32) => [(0, .ref (G.2.2.1 0)), (1, .int x1), (3, .int x3_1)]) (fun (S_1 : qv_St) (x3_1 : Int32) => S_1) (fun self_1 hself_1 S_1 x3_1 => ?_) qv_N S0 x2
  refine qr_iload_n (n := 3) 2 (dkX12_soonest (i := 2) rfl) rfl rfl ?_
  refine qr_sipush (n := 6) 300 (dkX12_soonest (i := 3) rfl) rfl (by decide) ?_
  refine qr_icmp_gt (t := 26) (n := 9) (dkX12_soonest (i := 4) rfl) (by decide) rfl ?_ ?_
  · refine qr_iconst (n := 27) (-1) (dkX12_soonest (i := 14) rfl) rfl (by decide) ?_
    exact qr_iret (dkX12_soonest (i := 15) rfl) rfl rfl
  · refine qr_aload_n (n := 10) 0 (dkX12_soonest (i := 5) rfl) rfl rfl ?_
    refine qr_iload_n (n := 11) 1 (dkX12_soonest (i := 6) rfl) rfl rfl ?_
    refine qr_iload_n (n := 12) 2 (dkX12_soonest (i := 7) rfl) rfl rfl ?_
    refine qr_cvm (n := 15) 0 [.int x1, .int x3_1] (dkX12_soonest (i := 8) rfl) rfl kvX12_420 rfl rfl (Nat.le_of_ble_eq_true rfl) rfl rfl lmO rfl (wX12_isGood G S_1 x1 x3_1) (fun S_2 r_1 => ?_)
    refine qr_if_eq (t := 20) (n := 18) (dkX12_soonest (i := 9) rfl) (by decide) rfl ?_ ?_
    · refine qr_iinc (n := 23) (v := 1) (lv2 := [(0, .ref (G.2.2.1 0)), (1, .int x1), (3, .int (x3_1 + 1))]) 2 [1, 2, 0] (dkX12_soonest (i := 12) rfl) rfl rfl (by decide) (by decide) rfl ?_
      refine qr_goto (n := 2) (dkX12_soonest (i := 13) rfl) (by decide) ?_
      exact hself_1 S_2 (x3_1 + 1)
    · refine qr_iload_n (n := 19) 2 (dkX12_soonest (i := 10) rfl) rfl rfl ?_
      exact qr_iret (dkX12_soonest (i := 11) rfl) rfl rfl
