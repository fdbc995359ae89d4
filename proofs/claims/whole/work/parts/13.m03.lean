def tbX12_heardNow : List (Nat × Instr × Nat) := [(0, .aload_n 0, 1), (1, .iload_n 1, 1), (2, .iload_n 2, 1), (3, .iload_n 3, 1), (4, .aload_n 0, 1), (5, .iload_n 1, 1), (6, .iload_n 3, 1), (7, .invokevirtual 348, 3), (10, .invokevirtual 351, 3), (13, .ireturn, 1)]
set_option maxRecDepth 20000 in
theorem daX12_heardNow : ∀ x ∈ tbX12_heardNow, decode cX12_heardNow x.1 = .ok x.2 := by decide +kernel
theorem dkX12_heardNow {i pc n : Nat} {ins : Instr} (h : tbX12_heardNow[i]? = some (pc, ins, n)) : decode cX12_heardNow pc = .ok (ins, n) := daX12_heardNow (pc, ins, n) (List.mem_of_getElem? h)
def fX12_heardNow (S0 : qv_St) (x1 : Int32) (x2 : Int32) (x3 : Int32) : Option (qv_St × Int32) :=
  (fX12_ageNow S0 x1 x3).bind fun r_1 =>
  qv_cm (fX12_heardBy S0 x1 x2 x3 r_1) fun S_1 r_2 =>
  some (S_1, r_2)
set_option maxRecDepth 20000 in
set_option maxHeartbeats 4000000 in
theorem wX12_heardNow (G : qv_GT) (S0 : qv_St) (x1 : Int32) (x2 : Int32) (x3 : Int32) : ∀ r, fX12_heardNow S0 x1 x2 x3 = some r → Cn G Lm yX12_heardNow cX12_heardNow 4 (some .int) 6 [.ref (G.2.2.1 0), .int x1, .int x2, .int x3] S0 (qe_m r) := by
  refine cn_of (own := RX12) (emb := qe_m) (lv := [(0, .ref (G.2.2.1 0)), (1, .int x1), (2, .int x2), (3, .int x3)]) rfl rfl (Nat.le_of_ble_eq_true rfl) rfl (fun X => ?_)
  unfold fX12_heardNow
  refine qr_aload_n (n := 1) 0 (dkX12_heardNow (i := 0) rfl) rfl rfl ?_
  refine qr_iload_n (n := 2) 1 (dkX12_heardNow (i := 1) rfl) rfl rfl ?_
  refine qr_iload_n (n := 3) 2 (dkX12_heardNow (i := 2) rfl) rfl rfl ?_
  refine qr_iload_n (n := 4) 3 (dkX12_heardNow (i := 3) rfl) rfl rfl ?_
  refine qr_aload_n (n := 5) 0 (dkX12_heardNow (i := 4) rfl) rfl rfl ?_
  refine qr_iload_n (n := 6) 1 (dkX12_heardNow (i := 5) rfl) rfl rfl ?_
  refine qr_iload_n (n := 7) 3 (dkX12_heardNow (i := 6) rfl) rfl rfl ?_
  refine qr_cvi (n := 10) 0 [.int x1, .int x3] (dkX12_heardNow (i := 7) rfl) rfl kvX12_348 rfl rfl (Nat.le_of_ble_eq_true rfl) rfl rfl lmO rfl (wX12_ageNow G S0 x1 x3) (fun r_1 => ?_)
  refine qr_cvm (n := 13) 0 [.int x1, .int x2, .int x3, .int r_1] (dkX12_heardNow (i := 8) rfl) rfl kvX12_351 rfl rfl (Nat.le_of_ble_eq_true rfl) rfl rfl lmO rfl (wX12_heardBy G S0 x1 x2 x3 r_1) (fun S_1 r_2 => ?_)
  exact qr_iret (dkX12_heardNow (i := 9) rfl) rfl rfl
def tbX12_mostHeard : List (Nat × Instr × Nat) := [(0, .iconst 0, 1), (1, .istore_n 3, 1), (2, .iconst 0, 1), (3, .istore 4, 2), (5, .iload 4, 2), (7, .aload_n 0, 1), (8, .getfield 43, 3), (11, .aload_n 0, 1), (12, .getfield 242, 3), (15, .iaload, 1), (16, .if_icmp .ge 28, 3), (19, .aload_n 0, 1), (20, .iload 4, 2), (22, .iload_n 1, 1), (23, .iload_n 2, 1), (24, .invokevirtual 355, 3), (27, .istore 5, 2), (29, .iload 5, 2), (31, .iload_n 3, 1), (32, .if_icmp .le 6, 3), (35, .iload 5, 2), (37, .istore_n 3, 1), (38, .iinc 4 1, 3), (41, .goto (-36), 3), (44, .iload_n 3, 1), (45, .ireturn, 1)]
set_option maxRecDepth 20000 in
theorem daX12_mostHeard : ∀ x ∈ tbX12_mostHeard, decode cX12_mostHeard x.1 = .ok x.2 := by decide +kernel
theorem dkX12_mostHeard {i pc n : Nat} {ins : Instr} (h : tbX12_mostHeard[i]? = some (pc, ins, n)) : decode cX12_mostHeard pc = .ok (ins, n) := daX12_mostHeard (pc, ins, n) (List.mem_of_getElem? h)
def fX12_mostHeard (S0 : qv_St) (x1 : Int32) (x2 : Int32) : Option (qv_St × Int32) :=
  qv_lp3 qv_N (fun self_1 (S_1 : qv_St) (x3_1 : Int32) (x4_1 : Int32) =>
    qv_ck (S_1.1 0 18) 2 <|
    if (S_1.1 9 (Int32.toNatClampNeg (S_1.1 0 18))) ≤ x4_1 then
      some (S_1, x3_1)
    else
      qv_cm (fX12_heardNow S_1 x4_1 x1 x2) fun S_2 r_1 =>
      qv_j (fun (x3_2 : Int32) =>
        self_1 S_2 x3_2 (x4_1 + 1)) fun K_1 =>
      if r_1 ≤ x3_1 then
        K_1 x3_1
      else
        K_1 r_1) S0 0 0
set_option maxRecDepth 20000 in
set_option maxHeartbeats 4000000 in
theorem wX12_mostHeard (G : qv_GT) (S0 : qv_St) (x1 : Int32) (x2 : Int32) : ∀ r, fX12_mostHeard S0 x1 x2 = some r → Cn G Lm yX12_mostHeard cX12_mostHeard 6 (some .int) 7 [.ref (G.2.2.1 0), .int x1, .int x2] S0 (qe_m r) := by
  refine cn_of (own := RX12) (emb := qe_m) (lv := [(0, .ref (G.2.2.1 0)), (1, .int x1), (2, .int x2)]) rfl rfl (Nat.le_of_ble_eq_true rfl) rfl (fun X => ?_)
  unfold fX12_mostHeard
  refine qr_iconst (n := 1) 0 (dkX12_mostHeard (i := 0) rfl) rfl (by decide) ?_
  refine qr_istore_n (n := 2) (lv2 := [(0, .ref (G.2.2.1 0)), (1, .int x1), (2, .int x2), (3, .int 0)]) [1, 2, 3, 0] (dkX12_mostHeard (i := 1) rfl) rfl rfl (by decide) rfl ?_
  refine qr_iconst (n := 3) 0 (dkX12_mostHeard (i := 2) rfl) rfl (by decide) ?_
  refine qr_istore (n := 5) (lv2 := [(0, .ref (G.2.2.1 0)), (1, .int x1), (2, .int x2), (3, .int 0), (4, .int 0)]) [1, 2, 3, 4, 0] (dkX12_mostHeard (i := 3) rfl) rfl (by decide) rfl ?_
  refine qr_lp3 (fun (S_1 : qv_St) (x3_1 : Int32) (x4_1 : Int32) => [(0, .ref (G.2.2.1 0)), (1, .int x1), (2, .int x2), (3, .int x3_1), (4, .int x4_1)]) (fun (S_1 : qv_St) (x3_1 : Int32) (x4_1 : Int32) => S_1) (fun self_1 hself_1 S_1 x3_1 x4_1 => ?_) qv_N S0 0 0
  refine qr_iload (n := 7) 4 (dkX12_mostHeard (i := 4) rfl) rfl rfl ?_
  refine qr_aload_n (n := 8) 0 (dkX12_mostHeard (i := 5) rfl) rfl rfl ?_
  refine qr_geta (n := 11) 0 22 9 (dkX12_mostHeard (i := 6) rfl) rfl lmO rfl gnX12 (Nat.le_of_ble_eq_true rfl) kfX12_43 rfl ?_
  refine qr_aload_n (n := 12) 0 (dkX12_mostHeard (i := 7) rfl) rfl rfl ?_
  refine qr_geti (n := 15) 0 18 (dkX12_mostHeard (i := 8) rfl) rfl lmO rfl gnX12 (Nat.le_of_ble_eq_true rfl) kfX12_242 rfl ?_
  refine qr_iald (n := 16) 9 2 (dkX12_mostHeard (i := 9) rfl) rfl lmA_9 ?_
  refine qr_icmp_ge (t := 44) (n := 19) (dkX12_mostHeard (i := 10) rfl) (by decide) rfl ?_ ?_
  · refine qr_iload_n (n := 45) 3 (dkX12_mostHeard (i := 24) rfl) rfl rfl ?_
    exact qr_iret (dkX12_mostHeard (i := 25) rfl) rfl rfl
  · refine qr_aload_n (n := 20) 0 (dkX12_mostHeard (i := 11) rfl) rfl rfl ?_
    refine qr_iload (n := 22) 4 (dkX12_mostHeard (i := 12) rfl) rfl rfl ?_
    refine qr_iload_n (n := 23) 1 (dkX12_mostHeard (i := 13) rfl) rfl rfl ?_
    refine qr_iload_n (n := 24) 2 (dkX12_mostHeard (i := 14) rfl) rfl rfl ?_
    refine qr_cvm (n := 27) 0 [.int x4_1, .int x1, .int x2] (dkX12_mostHeard (i := 15) rfl) rfl kvX12_355 rfl rfl (Nat.le_of_ble_eq_true rfl) rfl rfl lmO rfl (wX12_heardNow G S_1 x4_1 x1 x2) (fun S_2 r_1 => ?_)
    refine qr_istore (n := 29) (lv2 := [(0, .ref (G.2.2.1 0)), (1, .int x1), (2, .int x2), (3, .int x3_1), (4, .int x4_1), (5, .int r_1)]) [1, 2, 3, 4, 5, 0] (dkX12_mostHeard (i := 16) rfl) rfl (by decide) rfl ?_
    refine qr_iload (n := 31) 5 (dkX12_mostHeard (i := 17) rfl) rfl rfl ?_
    refine qr_iload_n (n := 32) 3 (dkX12_mostHeard (i := 18) rfl) rfl rfl ?_
    refine qr_j (fun K_1 : Int32 → Option (qv_St × Int32) => ∀ (x3_2 : Int32), VV G Lm X RX12 cX12_mostHeard 6 (some .int) 7 qe_m 38 [(0, .ref (G.2.2.1 0)), (1, .int x1), (2, .int x2), (3, .int x3_2), (4, .int x4_1)] [] S_2 (K_1 x3_2)) (fun x3_2 => ?_) (fun K_1 hK_1 => ?_)
    · refine qr_iinc (n := 41) (v := 1) (lv2 := [(0, .ref (G.2.2.1 0)), (1, .int x1), (2, .int x2), (3, .int x3_2), (4, .int (x4_1 + 1))]) 4 [1, 2, 3, 4, 0] (dkX12_mostHeard (i := 22) rfl) rfl rfl (by decide) (by decide) rfl ?_
      refine qr_goto (n := 5) (dkX12_mostHeard (i := 23) rfl) (by decide) ?_
      exact hself_1 S_2 x3_2 (x4_1 + 1)
    · refine qr_icmp_le (t := 38) (n := 35) (dkX12_mostHeard (i := 19) rfl) (by decide) rfl ?_ ?_
      · refine qr_sub [0, 1, 2, 3, 4] rfl ?_
        exact hK_1 x3_1
      · refine qr_iload (n := 37) 5 (dkX12_mostHeard (i := 20) rfl) rfl rfl ?_
        refine qr_istore_n (n := 38) (lv2 := [(0, .ref (G.2.2.1 0)), (1, .int x1), (2, .int x2), (3, .int r_1), (4, .int x4_1), (5, .int r_1)]) [1, 2, 3, 0, 4, 5] (dkX12_mostHeard (i := 21) rfl) rfl rfl (by decide) rfl ?_
        refine qr_sub [0, 1, 2, 3, 4] rfl ?_
        exact hK_1 r_1
def tbX12_rustling : List (Nat × Instr × Nat) := [(0, .aload_n 0, 1), (1, .iload_n 1, 1), (2, .invokevirtual 342, 3), (5, .aload_n 0, 1), (6, .getfield 119, 3), (9, .bipush 6, 2), (11, .aload_n 0, 1), (12, .getfield 128, 3), (15, .iconst 2, 1), (16, .iaload, 1), (17, .iload_n 1, 1), (18, .iadd, 1), (19, .aload_n 0, 1), (20, .getfield 128, 3), (23, .iconst 0, 1), (24, .iaload, 1), (25, .isub, 1), (26, .iastore, 1), (27, .aload_n 0, 1), (28, .bipush 8, 2), (30, .iload_n 1, 1), (31, .imul, 1), (32, .ldc_w 358, 3), (35, .iadd, 1), (36, .invokevirtual 333, 3), (39, .aload_n 0, 1), (40, .iconst 2, 1), (41, .iconst 0, 1), (42, .bipush 100, 2), (44, .invokevirtual 345, 3), (47, .if_icmp .ge 8, 3), (50, .bipush 50, 2), (52, .goto 4, 3), (55, .iconst 0, 1), (56, .ireturn, 1)]
set_option maxRecDepth 20000 in
theorem daX12_rustling : ∀ x ∈ tbX12_rustling, decode cX12_rustling x.1 = .ok x.2 := by decide +kernel
theorem dkX12_rustling {i pc n : Nat} {ins : Instr} (h : tbX12_rustling[i]? = some (pc, ins, n)) : decode cX12_rustling pc = .ok (ins, n) := daX12_rustling (pc, ins, n) (List.mem_of_getElem? h)
def fX12_rustling (S0 : qv_St) (x1 : Int32) : Option (qv_St × Int32) :=
  (fX12_looks S0 x1).bind fun S_1 =>
  qv_ck 2 32 <|
  qv_ck 0 32 <|
  qv_ck 6 9 <| qv_b (qv_si S_1 34 (Int32.toNatClampNeg 6) (((S_1.1 37 (Int32.toNatClampNeg 2)) + x1) - (S_1.1 37 (Int32.toNatClampNeg 0)))) fun S_2 =>
  (fX12_lotOf S_2 ((8 * x1) + 4000000)).bind fun r_1 =>
  qv_cm (fX12_asks S_2 2 0 100) fun S_3 r_2 =>
  if r_2 ≤ r_1 then
    some (S_3, 0)
  else
    some (S_3, 50)
set_option maxRecDepth 20000 in
set_option maxHeartbeats 4000000 in
theorem wX12_rustling (G : qv_GT) (S0 : qv_St) (x1 : Int32) : ∀ r, fX12_rustling S0 x1 = some r → Cn G Lm yX12_rustling cX12_rustling 2 (some .int) 3 [.ref (G.2.2.1 0), .int x1] S0 (qe_m r) := by
  refine cn_of (own := RX12) (emb := qe_m) (lv := [(0, .ref (G.2.2.1 0)), (1, .int x1)]) rfl rfl (Nat.le_of_ble_eq_true rfl) rfl (fun X => ?_)
  unfold fX12_rustling
  refine qr_aload_n (n := 1) 0 (dkX12_rustling (i := 0) rfl) rfl rfl ?_
  refine qr_iload_n (n := 2) 1 (dkX12_rustling (i := 1) rfl) rfl rfl ?_
  refine qr_cvu (n := 5) 0 [.int x1] (dkX12_rustling (i := 2) rfl) rfl kvX12_342 rfl rfl (Nat.le_of_ble_eq_true rfl) rfl rfl lmO rfl (wX12_looks G S0 x1) (fun S_1 => ?_)
  refine qr_aload_n (n := 6) 0 (dkX12_rustling (i := 3) rfl) rfl rfl ?_
  refine qr_geta (n := 9) 0 50 34 (dkX12_rustling (i := 4) rfl) rfl lmO rfl gnX12 (Nat.le_of_ble_eq_true rfl) kfX12_119 rfl ?_
  refine qr_bipush (n := 11) 6 (dkX12_rustling (i := 5) rfl) rfl (by decide) ?_
  refine qr_aload_n (n := 12) 0 (dkX12_rustling (i := 6) rfl) rfl rfl ?_
  refine qr_geta (n := 15) 0 54 37 (dkX12_rustling (i := 7) rfl) rfl lmO rfl gnX12 (Nat.le_of_ble_eq_true rfl) kfX12_128 rfl ?_
  refine qr_iconst (n := 16) 2 (dkX12_rustling (i := 8) rfl) rfl (by decide) ?_
  refine qr_iald (n := 17) 37 32 (dkX12_rustling (i := 9) rfl) rfl lmA_37 ?_
  refine qr_iload_n (n := 18) 1 (dkX12_rustling (i := 10) rfl) rfl rfl ?_
  refine qr_iadd (n := 19) (dkX12_rustling (i := 11) rfl) rfl ?_
  refine qr_aload_n (n := 20) 0 (dkX12_rustling (i := 12) rfl) rfl rfl ?_
  refine qr_geta (n := 23) 0 54 37 (dkX12_rustling (i := 13) rfl) rfl lmO rfl gnX12 (Nat.le_of_ble_eq_true rfl) kfX12_128 rfl ?_
  refine qr_iconst (n := 24) 0 (dkX12_rustling (i := 14) rfl) rfl (by decide) ?_
  refine qr_iald (n := 25) 37 32 (dkX12_rustling (i := 15) rfl) rfl lmA_37 ?_
  refine qr_isub (n := 26) (dkX12_rustling (i := 16) rfl) rfl ?_
  refine qr_iast (n := 27) 34 9 (dkX12_rustling (i := 17) rfl) rfl lmA_34 (fun S_2 => ?_)
  refine qr_aload_n (n := 28) 0 (dkX12_rustling (i := 18) rfl) rfl rfl ?_
  refine qr_bipush (n := 30) 8 (dkX12_rustling (i := 19) rfl) rfl (by decide) ?_
  refine qr_iload_n (n := 31) 1 (dkX12_rustling (i := 20) rfl) rfl rfl ?_
  refine qr_imul (n := 32) (dkX12_rustling (i := 21) rfl) rfl ?_
  refine qr_ldcw (n := 35) 4000000 (dkX12_rustling (i := 22) rfl) rfl kcX12_358 ?_
  refine qr_iadd (n := 36) (dkX12_rustling (i := 23) rfl) rfl ?_
  refine qr_cvi (n := 39) 0 [.int ((8 * x1) + 4000000)] (dkX12_rustling (i := 24) rfl) rfl kvX12_333 rfl rfl (Nat.le_of_ble_eq_true rfl) rfl rfl lmO rfl (wX12_lotOf G S_2 ((8 * x1) + 4000000)) (fun r_1 => ?_)
  refine qr_aload_n (n := 40) 0 (dkX12_rustling (i := 25) rfl) rfl rfl ?_
  refine qr_iconst (n := 41) 2 (dkX12_rustling (i := 26) rfl) rfl (by decide) ?_
  refine qr_iconst (n := 42) 0 (dkX12_rustling (i := 27) rfl) rfl (by decide) ?_
  refine qr_bipush (n := 44) 100 (dkX12_rustling (i := 28) rfl) rfl (by decide) ?_
  refine qr_cvm (n := 47) 0 [.int 2, .int 0, .int 100] (dkX12_rustling (i := 29) rfl) rfl kvX12_345 rfl rfl (Nat.le_of_ble_eq_true rfl) rfl rfl lmO rfl (wX12_asks G S_2 2 0 100) (fun S_3 r_2 => ?_)
  refine qr_icmp_ge (t := 55) (n := 50) (dkX12_rustling (i := 30) rfl) (by decide) rfl ?_ ?_
  · refine qr_iconst (n := 56) 0 (dkX12_rustling (i := 33) rfl) rfl (by decide) ?_
    exact qr_iret (dkX12_rustling (i := 34) rfl) rfl rfl
  · refine qr_bipush (n := 52) 50 (dkX12_rustling (i := 31) rfl) rfl (by decide) ?_
    refine qr_goto (n := 56) (dkX12_rustling (i := 32) rfl) (by decide) ?_
    exact qr_iret (dkX12_rustling (i := 34) rfl) rfl rfl
def tbX12_loudIn : List (Nat × Instr × Nat) := [(0, .aload_n 0, 1), (1, .iload_n 1, 1), (2, .iload_n 2, 1), (3, .invokevirtual 359, 3), (6, .istore_n 3, 1), (7, .aload_n 0, 1), (8, .iload_n 2, 1), (9, .invokevirtual 362, 3), (12, .istore 4, 2), (14, .iload_n 3, 1), (15, .iload 4, 2), (17, .if_icmp .le 7, 3), (20, .iload_n 3, 1), (21, .goto 5, 3), (24, .iload 4, 2), (26, .ireturn, 1)]
set_option maxRecDepth 20000 in
theorem daX12_loudIn : ∀ x ∈ tbX12_loudIn, decode cX12_loudIn x.1 = .ok x.2 := by decide +kernel
theorem dkX12_loudIn {i pc n : Nat} {ins : Instr} (h : tbX12_loudIn[i]? = some (pc, ins, n)) : decode cX12_loudIn pc = .ok (ins, n) := daX12_loudIn (pc, ins, n) (List.mem_of_getElem? h)
def fX12_loudIn (S0 : qv_St) (x1 : Int32) (x2 : Int32) : Option (qv_St × Int32) :=
  qv_cm (fX12_mostHeard S0 x1 x2) fun S_1 r_1 =>
  qv_cm (fX12_rustling S_1 x2) fun S_2 r_2 =>
  if r_1 ≤ r_2 then
    some (S_2, r_2)
  else
    some (S_2, r_1)
set_option maxRecDepth 20000 in
set_option maxHeartbeats 4000000 in
theorem wX12_loudIn (G : qv_GT) (S0 : qv_St) (x1 : Int32) (x2 : Int32) : ∀ r, fX12_loudIn S0 x1 x2 = some r → Cn G Lm yX12_loudIn cX12_loudIn 5 (some .int) 8 [.ref (G.2.2.1 0), .int x1, .int x2] S0 (qe_m r) := by
  refine cn_of (own := RX12) (emb := qe_m) (lv := [(0, .ref (G.2.2.1 0)), (1, .int x1), (2, .int x2)]) rfl rfl (Nat.le_of_ble_eq_true rfl) rfl (fun X => ?_)
  unfold fX12_loudIn
  refine qr_aload_n (n := 1) 0 (dkX12_loudIn (i := 0) rfl) rfl rfl ?_
  refine qr_iload_n (n := 2) 1 (dkX12_loudIn (i := 1) rfl) rfl rfl ?_
  refine qr_iload_n (n := 3) 2 (dkX12_loudIn (i := 2) rfl) rfl rfl ?_
  refine qr_cvm (n := 6) 0 [.int x1, .int x2] (dkX12_loudIn (i := 3) rfl) rfl kvX12_359 rfl rfl (Nat.le_of_ble_eq_true rfl) rfl rfl lmO rfl (wX12_mostHeard G S0 x1 x2) (fun S_1 r_1 => ?_)
  refine qr_istore_n (n := 7) (lv2 := [(0, .ref (G.2.2.1 0)), (1, .int x1), (2, .int x2), (3, .int r_1)]) [1, 2, 3, 0] (dkX12_loudIn (i := 4) rfl) rfl rfl (by decide) rfl ?_
  refine qr_aload_n (n := 8) 0 (dkX12_loudIn (i := 5) rfl) rfl rfl ?_
  refine qr_iload_n (n := 9) 2 (dkX12_loudIn (i := 6) rfl) rfl rfl ?_
  refine qr_cvm (n := 12) 0 [.int x2] (dkX12_loudIn (i := 7) rfl) rfl kvX12_362 rfl rfl (Nat.le_of_ble_eq_true rfl) rfl rfl lmO rfl (wX12_rustling G S_1 x2) (fun S_2 r_2 => ?_)
  refine qr_istore (n := 14) (lv2 := [(0, .ref (G.2.2.1 0)), (1, .int x1), (2, .int x2), (3, .int r_1), (4, .int r_2)]) [1, 2, 3, 4, 0] (dkX12_loudIn (i := 8) rfl) rfl (by decide) rfl ?_
  refine qr_iload_n (n := 15) 3 (dkX12_loudIn (i := 9) rfl) rfl rfl ?_
  refine qr_iload (n := 17) 4 (dkX12_loudIn (i := 10) rfl) rfl rfl ?_
  refine qr_icmp_le (t := 24) (n := 20) (dkX12_loudIn (i := 11) rfl) (by decide) rfl ?_ ?_
  · refine qr_iload (n := 26) 4 (dkX12_loudIn (i := 14) rfl) rfl rfl ?_
    exact qr_iret (dkX12_loudIn (i := 15) rfl) rfl rfl
  · refine qr_iload_n (n := 21) 3 (dkX12_loudIn (i := 12) rfl) rfl rfl ?_
    refine qr_goto (n := 26) (dkX12_loudIn (i := 13) rfl) (by decide) ?_
    exact qr_iret (dkX12_loudIn (i := 15) rfl) rfl rfl
def tbX12_bearsIn : List (Nat × Instr × Nat) := [(0, .aload_n 0, 1), (1, .iload_n 3, 1), (2, .invokevirtual 342, 3), (5, .aload_n 0, 1), (6, .getfield 119, 3), (9, .iconst 4, 1), (10, .aload_n 0, 1), (11, .getfield 77, 3), (14, .bipush 6, 2), (16, .aload_n 0, 1), (17, .getfield 242, 3), (20, .imul, 1), (21, .iload_n 1, 1), (22, .iadd, 1), (23, .iaload, 1), (24, .iastore, 1), (25, .aload_n 0, 1), (26, .getfield 119, 3), (29, .iconst 5, 1), (30, .iload_n 2, 1), (31, .iastore, 1), (32, .aload_n 0, 1), (33, .getfield 119, 3), (36, .bipush 7, 2), (38, .iload_n 1, 1), (39, .iastore, 1), (40, .aload_n 0, 1), (41, .iconst 1, 1), (42, .aload_n 0, 1), (43, .getfield 77, 3), (46, .bipush 6, 2), (48, .aload_n 0, 1), (49, .getfield 242, 3), (52, .imul, 1), (53, .iload_n 1, 1), (54, .iadd, 1), (55, .iaload, 1), (56, .bipush 99, 2), (58, .invokevirtual 345, 3), (61, .ireturn, 1)]
set_option maxRecDepth 20000 in
theorem daX12_bearsIn : ∀ x ∈ tbX12_bearsIn, decode cX12_bearsIn x.1 = .ok x.2 := by decide +kernel
theorem dkX12_bearsIn {i pc n : Nat} {ins : Instr} (h : tbX12_bearsIn[i]? = some (pc, ins, n)) : decode cX12_bearsIn pc = .ok (ins, n) := daX12_bearsIn (pc, ins, n) (List.mem_of_getElem? h)
def fX12_bearsIn (S0 : qv_St) (x1 : Int32) (x2 : Int32) (x3 : Int32) : Option (qv_St × Int32) :=
  (fX12_looks S0 x3).bind fun S_1 =>
  qv_ck ((6 * (S_1.1 0 18)) + x1) 12 <|
  qv_ck 4 9 <| qv_b (qv_si S_1 34 (Int32.toNatClampNeg 4) (S_1.1 20 (Int32.toNatClampNeg ((6 * (S_1.1 0 18)) + x1)))) fun S_2 =>
  qv_ck 5 9 <| qv_b (qv_si S_2 34 (Int32.toNatClampNeg 5) x2) fun S_3 =>
  qv_ck 7 9 <| qv_b (qv_si S_3 34 (Int32.toNatClampNeg 7) x1) fun S_4 =>
  qv_ck ((6 * (S_4.1 0 18)) + x1) 12 <|
  qv_cm (fX12_asks S_4 1 (S_4.1 20 (Int32.toNatClampNeg ((6 * (S_4.1 0 18)) + x1))) 99) fun S_5 r_1 =>
  some (S_5, r_1)
set_option maxRecDepth 20000 in
set_option maxHeartbeats 4000000 in
theorem wX12_bearsIn (G : qv_GT) (S0 : qv_St) (x1 : Int32) (x2 : Int32) (x3 : Int32) : ∀ r, fX12_bearsIn S0 x1 x2 x3 = some r → Cn G Lm yX12_bearsIn cX12_bearsIn 4 (some .int) 3 [.ref (G.2.2.1 0), .int x1, .int x2, .int x3] S0 (qe_m r) := by
  refine cn_of (own := RX12) (emb := qe_m) (lv := [(0, .ref (G.2.2.1 0)), (1, .int x1), (2, .int x2), (3, .int x3)]) rfl rfl (Nat.le_of_ble_eq_true rfl) rfl (fun X => ?_)
  unfold fX12_bearsIn
  refine qr_aload_n (n := 1) 0 (dkX12_bearsIn (i := 0) rfl) rfl rfl ?_
  refine qr_iload_n (n := 2) 3 (dkX12_bearsIn (i := 1) rfl) rfl rfl ?_
  refine qr_cvu (n := 5) 0 [.int x3] (dkX12_bearsIn (i := 2) rfl) rfl kvX12_342 rfl rfl (Nat.le_of_ble_eq_true rfl) rfl rfl lmO rfl (wX12_looks G S0 x3) (fun S_1 => ?_)
  refine qr_aload_n (n := 6) 0 (dkX12_bearsIn (i := 3) rfl) rfl rfl ?_
  refine qr_geta (n := 9) 0 50 34 (dkX12_bearsIn (i := 4) rfl) rfl lmO rfl gnX12 (Nat.le_of_ble_eq_true rfl) kfX12_119 rfl ?_
  refine qr_iconst (n := 10) 4 (dkX12_bearsIn (i := 5) rfl) rfl (by decide) ?_
  refine qr_aload_n (n := 11) 0 (dkX12_bearsIn (i := 6) rfl) rfl rfl ?_
  refine qr_geta (n := 14) 0 33 20 (dkX12_bearsIn (i := 7) rfl) rfl lmO rfl gnX12 (Nat.le_of_ble_eq_true rfl) kfX12_77 rfl ?_
  refine qr_bipush (n := 16) 6 (dkX12_bearsIn (i := 8) rfl) rfl (by decide) ?_
  refine qr_aload_n (n := 17) 0 (dkX12_bearsIn (i := 9) rfl) rfl rfl ?_
  refine qr_geti (n := 20) 0 18 (dkX12_bearsIn (i := 10) rfl) rfl lmO rfl gnX12 (Nat.le_of_ble_eq_true rfl) kfX12_242 rfl ?_
  refine qr_imul (n := 21) (dkX12_bearsIn (i := 11) rfl) rfl ?_
  refine qr_iload_n (n := 22) 1 (dkX12_bearsIn (i := 12) rfl) rfl rfl ?_
  refine qr_iadd (n := 23) (dkX12_bearsIn (i := 13) rfl) rfl ?_
  refine qr_iald (n := 24) 20 12 (dkX12_bearsIn (i := 14) rfl) rfl lmA_20 ?_
  refine qr_iast (n := 25) 34 9 (dkX12_bearsIn (i := 15) rfl) rfl lmA_34 (fun S_2 => ?_)
  refine qr_aload_n (n := 26) 0 (dkX12_bearsIn (i := 16) rfl) rfl rfl ?_
  refine qr_geta (n := 29) 0 50 34 (dkX12_bearsIn (i := 17) rfl) rfl lmO rfl gnX12 (Nat.le_of_ble_eq_true rfl) kfX12_119 rfl ?_
  refine qr_iconst (n := 30) 5 (dkX12_bearsIn (i := 18) rfl) rfl (by decide) ?_
  refine qr_iload_n (n := 31) 2 (dkX12_bearsIn (i := 19) rfl) rfl rfl ?_
  refine qr_iast (n := 32) 34 9 (dkX12_bearsIn (i := 20) rfl) rfl lmA_34 (fun S_3 => ?_)
  refine qr_aload_n (n := 33) 0 (dkX12_bearsIn (i := 21) rfl) rfl rfl ?_
  refine qr_geta (n := 36) 0 50 34 (dkX12_bearsIn (i := 22) rfl) rfl lmO rfl gnX12 (Nat.le_of_ble_eq_true rfl) kfX12_119 rfl ?_
  refine qr_bipush (n := 38) 7 (dkX12_bearsIn (i := 23) rfl) rfl (by decide) ?_
  refine qr_iload_n (n := 39) 1 (dkX12_bearsIn (i := 24) rfl) rfl rfl ?_
  refine qr_iast (n := 40) 34 9 (dkX12_bearsIn (i := 25) rfl) rfl lmA_34 (fun S_4 => ?_)
  refine qr_aload_n (n := 41) 0 (dkX12_bearsIn (i := 26) rfl) rfl rfl ?_
  refine qr_iconst (n := 42) 1 (dkX12_bearsIn (i := 27) rfl) rfl (by decide) ?_
  refine qr_aload_n (n := 43) 0 (dkX12_bearsIn (i := 28) rfl) rfl rfl ?_
  refine qr_geta (n := 46) 0 33 20 (dkX12_bearsIn (i := 29) rfl) rfl lmO rfl gnX12 (Nat.le_of_ble_eq_true rfl) kfX12_77 rfl ?_
  refine qr_bipush (n := 48) 6 (dkX12_bearsIn (i := 30) rfl) rfl (by decide) ?_
  refine qr_aload_n (n := 49) 0 (dkX12_bearsIn (i := 31) rfl) rfl rfl ?_
  refine qr_geti (n := 52) 0 18 (dkX12_bearsIn (i := 32) rfl) rfl lmO rfl gnX12 (Nat.le_of_ble_eq_true rfl) kfX12_242 rfl ?_
  refine qr_imul (n := 53) (dkX12_bearsIn (i := 33) rfl) rfl ?_
  refine qr_iload_n (n := 54) 1 (dkX12_bearsIn (i := 34) rfl) rfl rfl ?_
  refine qr_iadd (n := 55) (dkX12_bearsIn (i := 35) rfl) rfl ?_
  refine qr_iald (n := 56) 20 12 (dkX12_bearsIn (i := 36) rfl) rfl lmA_20 ?_
  refine qr_bipush (n := 58) 99 (dkX12_bearsIn (i := 37) rfl) rfl (by decide) ?_
  refine qr_cvm (n := 61) 0 [.int 1, .int (S_4.1 20 (Int32.toNatClampNeg ((6 * (S_4.1 0 18)) + x1))), .int 99] (dkX12_bearsIn (i := 38) rfl) rfl kvX12_345 rfl rfl (Nat.le_of_ble_eq_true rfl) rfl rfl lmO rfl (wX12_asks G S_4 1 (S_4.1 20 (Int32.toNatClampNeg ((6 * (S_4.1 0 18)) + x1))) 99) (fun S_5 r_1 => ?_)
  exact qr_iret (dkX12_bearsIn (i := 39) rfl) rfl rfl
def tbX12_fillsLoud : List (Nat × Instr × Nat) := [(0, .iconst 0, 1), (1, .istore_n 3, 1), (2, .iload_n 3, 1), (3, .iload_n 2, 1), (4, .if_icmp .ge 28, 3), (7, .aload_n 0, 1), (8, .getfield 131, 3), (11, .iload_n 3, 1), (12, .aload_n 0, 1), (13, .iload_n 1, 1), (14, .aload_n 0, 1), (15, .getfield 128, 3), (18, .iconst 0, 1), (19, .iaload, 1), (20, .iload_n 3, 1), (21, .iadd, 1), (22, .invokevirtual 365, 3), (25, .iastore, 1), (26, .iinc 3 1, 3), (29, .goto (-27), 3), (32, .return_, 1)]
set_option maxRecDepth 20000 in
theorem daX12_fillsLoud : ∀ x ∈ tbX12_fillsLoud, decode cX12_fillsLoud x.1 = .ok x.2 := by decide +kernel
theorem dkX12_fillsLoud {i pc n : Nat} {ins : Instr} (h : tbX12_fillsLoud[i]? = some (pc, ins, n)) : decode cX12_fillsLoud pc = .ok (ins, n) := daX12_fillsLoud (pc, ins, n) (List.mem_of_getElem? h)
def fX12_fillsLoud (S0 : qv_St) (x1 : Int32) (x2 : Int32) : Option qv_St :=
  qv_lp2 qv_N (fun self_1 (S_1 : qv_St) (x3_1 : Int32) =>
    if x2 ≤ x3_1 then
      some S_1
    else
      qv_ck 0 32 <|
      qv_cm (fX12_loudIn S_1 x1 ((S_1.1 37 (Int32.toNatClampNeg 0)) + x3_1)) fun S_2 r_1 =>
      qv_ck x3_1 1620 <| qv_b (qv_si S_2 38 (Int32.toNatClampNeg x3_1) r_1) fun S_3 =>
      self_1 S_3 (x3_1 + 1)) S0 0
set_option maxRecDepth 20000 in
set_option maxHeartbeats 4000000 in
theorem wX12_fillsLoud (G : qv_GT) (S0 : qv_St) (x1 : Int32) (x2 : Int32) : ∀ r, fX12_fillsLoud S0 x1 x2 = some r → Cn G Lm yX12_fillsLoud cX12_fillsLoud 4 none 9 [.ref (G.2.2.1 0), .int x1, .int x2] S0 (qe_u r) := by
  refine cn_of (own := RX12) (emb := qe_u) (lv := [(0, .ref (G.2.2.1 0)), (1, .int x1), (2, .int x2)]) rfl rfl (Nat.le_of_ble_eq_true rfl) rfl (fun X => ?_)
  unfold fX12_fillsLoud
  refine qr_iconst (n := 1) 0 (dkX12_fillsLoud (i := 0) rfl) rfl (by decide) ?_
  refine qr_istore_n (n := 2) (lv2 := [(0, .ref (G.2.2.1 0)), (1, .int x1), (2, .int x2), (3, .int 0)]) [1, 2, 3, 0] (dkX12_fillsLoud (i := 1) rfl) rfl rfl (by decide) rfl ?_
  refine qr_lp2 (fun (S_1 : qv_St) (x3_1 : Int32) => [(0, .ref (G.2.2.1 0)), (1, .int x1), (2, .int x2), (3, .int x3_1)]) (fun (S_1 : qv_St) (x3_1 : Int32) => S_1) (fun self_1 hself_1 S_1 x3_1 => ?_) qv_N S0 0
  refine qr_iload_n (n := 3) 3 (dkX12_fillsLoud (i := 2) rfl) rfl rfl ?_
  refine qr_iload_n (n := 4) 2 (dkX12_fillsLoud (i := 3) rfl) rfl rfl ?_
  refine qr_icmp_ge (t := 32) (n := 7) (dkX12_fillsLoud (i := 4) rfl) (by decide) rfl ?_ ?_
  · exact qr_vret (dkX12_fillsLoud (i := 20) rfl) rfl rfl
  · refine qr_aload_n (n := 8) 0 (dkX12_fillsLoud (i := 5) rfl) rfl rfl ?_
    refine qr_geta (n := 11) 0 56 38 (dkX12_fillsLoud (i := 6) rfl) rfl lmO rfl gnX12 (Nat.le_of_ble_eq_true rfl) kfX12_131 rfl ?_
    refine qr_iload_n (n := 12) 3 (dkX12_fillsLoud (i := 7) rfl) rfl rfl ?_
    refine qr_aload_n (n := 13) 0 (dkX12_fillsLoud (i := 8) rfl) rfl rfl ?_
    refine qr_iload_n (n := 14) 1 (dkX12_fillsLoud (i := 9) rfl) rfl rfl ?_
    refine qr_aload_n (n := 15) 0 (dkX12_fillsLoud (i := 10) rfl) rfl rfl ?_
    refine qr_geta (n := 18) 0 54 37 (dkX12_fillsLoud (i := 11) rfl) rfl lmO rfl gnX12 (Nat.le_of_ble_eq_true rfl) kfX12_128 rfl ?_
    refine qr_iconst (n := 19) 0 (dkX12_fillsLoud (i := 12) rfl) rfl (by decide) ?_
    refine qr_iald (n := 20) 37 32 (dkX12_fillsLoud (i := 13) rfl) rfl lmA_37 ?_
    refine qr_iload_n (n := 21) 3 (dkX12_fillsLoud (i := 14) rfl) rfl rfl ?_
    refine qr_iadd (n := 22) (dkX12_fillsLoud (i := 15) rfl) rfl ?_
    refine qr_cvm (n := 25) 0 [.int x1, .int ((S_1.1 37 (Int32.toNatClampNeg 0)) + x3_1)] (dkX12_fillsLoud (i := 16) rfl) rfl kvX12_365 rfl rfl (Nat.le_of_ble_eq_true rfl) rfl rfl lmO rfl (wX12_loudIn G S_1 x1 ((S_1.1 37 (Int32.toNatClampNeg 0)) + x3_1)) (fun S_2 r_1 => ?_)
    refine qr_iast (n := 26) 38 1620 (dkX12_fillsLoud (i := 17) rfl) rfl lmA_38 (fun S_3 => ?_)
    refine qr_iinc (n := 29) (v := 1) (lv2 := [(0, .ref (G.2.2.1 0)), (1, .int x1), (2, .int x2), (3, .int (x3_1 + 1))]) 3 [1, 2, 3, 0] (dkX12_fillsLoud (i := 18) rfl) rfl rfl (by decide) (by decide) rfl ?_
    refine qr_goto (n := 2) (dkX12_fillsLoud (i := 19) rfl) (by decide) ?_
    exact hself_1 S_3 (x3_1 + 1)
def tbX12_clearFrom : List (Nat × Instr × Nat) := [(0, .iconst 0, 1), (1, .istore_n 3, 1), (2, .iconst 0, 1), (3, .istore 4, 2), (5, .iload 4, 2), (7, .aload_n 0, 1), (8, .iload_n 1, 1), (9, .invokevirtual 368, 3), (12, .if_icmp .ge 46, 3), (15, .aload_n 0, 1), (16, .getfield 131, 3), (19, .iload_n 2, 1), (20, .iload 4, 2), (22, .iadd, 1), (23, .iaload, 1), (24, .aload_n 0, 1), (25, .iload_n 1, 1), (26, .iload 4, 2), (28, .aload_n 0, 1), (29, .getfield 128, 3), (32, .iconst 0, 1), (33, .iaload, 1), (34, .iload_n 2, 1), (35, .iadd, 1), (36, .iload 4, 2), (38, .iadd, 1), (39, .invokevirtual 371, 3), (42, .if_icmp .gt 10, 3), (45, .iload_n 3, 1), (46, .iconst 1, 1), (47, .iload 4, 2), (49, .ishl, 1), (50, .ior, 1), (51, .istore_n 3, 1), (52, .iinc 4 1, 3), (55, .goto (-50), 3), (58, .iload_n 3, 1), (59, .ireturn, 1)]
set_option maxRecDepth 20000 in
theorem daX12_clearFrom : ∀ x ∈ tbX12_clearFrom, decode cX12_clearFrom x.1 = .ok x.2 := by decide +kernel
theorem dkX12_clearFrom {i pc n : Nat} {ins : Instr} (h : tbX12_clearFrom[i]? = some (pc, ins, n)) : decode cX12_clearFrom pc = .ok (ins, n) := daX12_clearFrom (pc, ins, n) (List.mem_of_getElem? h)
def fX12_clearFrom (S0 : qv_St) (x1 : Int32) (x2 : Int32) : Option (qv_St × Int32) :=
  qv_lp3 qv_N (fun self_1 (S_1 : qv_St) (x3_1 : Int32) (x4_1 : Int32) =>
    (fX12_longFor S_1 x1).bind fun r_1 =>
    if r_1 ≤ x4_1 then
      some (S_1, x3_1)
    else
      qv_ck (x2 + x4_1) 1620 <|
      qv_ck 0 32 <|
      qv_cm (fX12_bearsIn S_1 x1 x4_1 (((S_1.1 37 (Int32.toNatClampNeg 0)) + x2) + x4_1)) fun S_2 r_2 =>
      qv_j (fun (x3_2 : Int32) =>
        self_1 S_2 x3_2 (x4_1 + 1)) fun K_1 =>
      if r_2 < (S_1.1 38 (Int32.toNatClampNeg (x2 + x4_1))) then
        K_1 x3_1
      else
        qv_b ((x3_1 ||| (1 <<< (x4_1 &&& 31))) : Int32) fun x3_3 =>
        K_1 x3_3) S0 0 0
set_option maxRecDepth 20000 in
set_option maxHeartbeats 4000000 in
theorem wX12_clearFrom (G : qv_GT) (S0 : qv_St) (x1 : Int32) (x2 : Int32) : ∀ r, fX12_clearFrom S0 x1 x2 = some r → Cn G Lm yX12_clearFrom cX12_clearFrom 5 (some .int) 4 [.ref (G.2.2.1 0), .int x1, .int x2] S0 (qe_m r) := by
  refine cn_of (own := RX12) (emb := qe_m) (lv := [(0, .ref (G.2.2.1 0)), (1, .int x1), (2, .int x2)]) rfl rfl (Nat.le_of_ble_eq_true rfl) rfl (fun X => ?_)
  unfold fX12_clearFrom
  refine qr_iconst (n := 1) 0 (dkX12_clearFrom (i := 0) rfl) rfl (by decide) ?_
  refine qr_istore_n (n := 2) (lv2 := [(0, .ref (G.2.2.1 0)), (1, .int x1), (2, .int x2), (3, .int 0)]) [1, 2, 3, 0] (dkX12_clearFrom (i := 1) rfl) rfl rfl (by decide) rfl ?_
  refine qr_iconst (n := 3) 0 (dkX12_clearFrom (i := 2) rfl) rfl (by decide) ?_
  refine qr_istore (n := 5) (lv2 := [(0, .ref (G.2.2.1 0)), (1, .int x1), (2, .int x2), (3, .int 0), (4, .int 0)]) [1, 2, 3, 4, 0] (dkX12_clearFrom (i := 3) rfl) rfl (by decide) rfl ?_
  refine qr_lp3 (fun (S_1 : qv_St) (x3_1 : Int32) (x4_1 : Int32) => [(0, .ref (G.2.2.1 0)), (1, .int x1), (2, .int x2), (3, .int x3_1), (4, .int x4_1)]) (fun (S_1 : qv_St) (x3_1 : Int32) (x4_1 : Int32) => S_1) (fun self_1 hself_1 S_1 x3_1 x4_1 => ?_) qv_N S0 0 0
  refine qr_iload (n := 7) 4 (dkX12_clearFrom (i := 4) rfl) rfl rfl ?_
  refine qr_aload_n (n := 8) 0 (dkX12_clearFrom (i := 5) rfl) rfl rfl ?_
  refine qr_iload_n (n := 9) 1 (dkX12_clearFrom (i := 6) rfl) rfl rfl ?_
  refine qr_cvi (n := 12) 0 [.int x1] (dkX12_clearFrom (i := 7) rfl) rfl kvX12_368 rfl rfl (Nat.le_of_ble_eq_true rfl) rfl rfl lmO rfl (wX12_longFor G S_1 x1) (fun r_1 => ?_)
  refine qr_icmp_ge (t := 58) (n := 15) (dkX12_clearFrom (i := 8) rfl) (by decide) rfl ?_ ?_
  · refine qr_iload_n (n := 59) 3 (dkX12_clearFrom (i := 36) rfl) rfl rfl ?_
    exact qr_iret (dkX12_clearFrom (i := 37) rfl) rfl rfl
  · refine qr_aload_n (n := 16) 0 (dkX12_clearFrom (i := 9) rfl) rfl rfl ?_
    refine qr_geta (n := 19) 0 56 38 (dkX12_clearFrom (i := 10) rfl) rfl lmO rfl gnX12 (Nat.le_of_ble_eq_true rfl) kfX12_131 rfl ?_
    refine qr_iload_n (n := 20) 2 (dkX12_clearFrom (i := 11) rfl) rfl rfl ?_
    refine qr_iload (n := 22) 4 (dkX12_clearFrom (i := 12) rfl) rfl rfl ?_
    refine qr_iadd (n := 23) (dkX12_clearFrom (i := 13) rfl) rfl ?_
    refine qr_iald (n := 24) 38 1620 (dkX12_clearFrom (i := 14) rfl) rfl lmA_38 ?_
    refine qr_aload_n (n := 25) 0 (dkX12_clearFrom (i := 15) rfl) rfl rfl ?_
    refine qr_iload_n (n := 26) 1 (dkX12_clearFrom (i := 16) rfl) rfl rfl ?_
    refine qr_iload (n := 28) 4 (dkX12_clearFrom (i := 17) rfl) rfl rfl ?_
    refine qr_aload_n (n := 29) 0 (dkX12_clearFrom (i := 18) rfl) rfl rfl ?_
    refine qr_geta (n := 32) 0 54 37 (dkX12_clearFrom (i := 19) rfl) rfl lmO rfl gnX12 (Nat.le_of_ble_eq_true rfl) kfX12_128 rfl ?_
    refine qr_iconst (n := 33) 0 (dkX12_clearFrom (i := 20) rfl) rfl (by decide) ?_
    refine qr_iald (n := 34) 37 32 (dkX12_clearFrom (i := 21) rfl) rfl lmA_37 ?_
    refine qr_iload_n (n := 35) 2 (dkX12_clearFrom (i := 22) rfl) rfl rfl ?_
    refine qr_iadd (n := 36) (dkX12_clearFrom (i := 23) rfl) rfl ?_
    refine qr_iload (n := 38) 4 (dkX12_clearFrom (i := 24) rfl) rfl rfl ?_
    refine qr_iadd (n := 39) (dkX12_clearFrom (i := 25) rfl) rfl ?_
    refine qr_cvm (n := 42) 0 [.int x1, .int x4_1, .int (((S_1.1 37 (Int32.toNatClampNeg 0)) + x2) + x4_1)] (dkX12_clearFrom (i := 26) rfl) rfl kvX12_371 rfl rfl (Nat.le_of_ble_eq_true rfl) rfl rfl lmO rfl (wX12_bearsIn G S_1 x1 x4_1 (((S_1.1 37 (Int32.toNatClampNeg 0)) + x2) + x4_1)) (fun S_2 r_2 => ?_)
    refine qr_j (fun K_1 : Int32 → Option (qv_St × Int32) => ∀ (x3_2 : Int32), VV G Lm X RX12 cX12_clearFrom 5 (some .int) 4 qe_m 52 [(0, .ref (G.2.2.1 0)), (1, .int x1), (2, .int x2), (3, .int x3_2), (4, .int x4_1)] [] S_2 (K_1 x3_2)) (fun x3_2 => ?_) (fun K_1 hK_1 => ?_)
    · refine qr_iinc (n := 55) (v := 1) (lv2 := [(0, .ref (G.2.2.1 0)), (1, .int x1), (2, .int x2), (3, .int x3_2), (4, .int (x4_1 + 1))]) 4 [1, 2, 3, 4, 0] (dkX12_clearFrom (i := 34) rfl) rfl rfl (by decide) (by decide) rfl ?_
      refine qr_goto (n := 5) (dkX12_clearFrom (i := 35) rfl) (by decide) ?_
      exact hself_1 S_2 x3_2 (x4_1 + 1)
    · refine qr_icmp_gt (t := 52) (n := 45) (dkX12_clearFrom (i := 27) rfl) (by decide) rfl ?_ ?_
      · exact hK_1 x3_1
      · refine qr_iload_n (n := 46) 3 (dkX12_clearFrom (i := 28) rfl) rfl rfl ?_
        refine qr_iconst (n := 47) 1 (dkX12_clearFrom (i := 29) rfl) rfl (by decide) ?_
        refine qr_iload (n := 49) 4 (dkX12_clearFrom (i := 30) rfl) rfl rfl ?_
        refine qr_ishl (n := 50) (dkX12_clearFrom (i := 31) rfl) rfl ?_
        refine qr_ior (n := 51) (dkX12_clearFrom (i := 32) rfl) rfl ?_
        refine qr_b (α := Int32) (x3_1 ||| (1 <<< (x4_1 &&& 31))) (lvf := fun _ => [(0, .ref (G.2.2.1 0)), (1, .int x1), (2, .int x2), (3, .int x3_1), (4, .int x4_1)]) (stf := fun z => .int z :: []) (Sf := fun _ => S_2) (fun x3_3 => ?_)
        refine qr_istore_n (n := 52) (lv2 := [(0, .ref (G.2.2.1 0)), (1, .int x1), (2, .int x2), (3, .int x3_3), (4, .int x4_1)]) [1, 2, 3, 0, 4] (dkX12_clearFrom (i := 33) rfl) rfl rfl (by decide) rfl ?_
        exact hK_1 x3_3
def tbX12_isWhole : List (Nat × Instr × Nat) := [(0, .iload_n 2, 1), (1, .iconst 1, 1), (2, .aload_n 0, 1), (3, .iload_n 1, 1), (4, .invokevirtual 368, 3), (7, .ishl, 1), (8, .iconst 1, 1), (9, .isub, 1), (10, .if_icmp .ne 7, 3), (13, .iconst 1, 1), (14, .goto 4, 3), (17, .iconst 0, 1), (18, .ireturn, 1)]
set_option maxRecDepth 20000 in
theorem daX12_isWhole : ∀ x ∈ tbX12_isWhole, decode cX12_isWhole x.1 = .ok x.2 := by decide +kernel
theorem dkX12_isWhole {i pc n : Nat} {ins : Instr} (h : tbX12_isWhole[i]? = some (pc, ins, n)) : decode cX12_isWhole pc = .ok (ins, n) := daX12_isWhole (pc, ins, n) (List.mem_of_getElem? h)
def fX12_isWhole (S0 : qv_St) (x1 : Int32) (x2 : Int32) : Option Int32 :=
  (fX12_longFor S0 x1).bind fun r_1 =>
  if x2 = ((1 <<< (r_1 &&& 31)) - 1) then
    some 1
  else
    some 0
set_option maxRecDepth 20000 in
set_option maxHeartbeats 4000000 in
theorem wX12_isWhole (G : qv_GT) (S0 : qv_St) (x1 : Int32) (x2 : Int32) : ∀ r, fX12_isWhole S0 x1 x2 = some r → Cn G Lm yX12_isWhole cX12_isWhole 3 (some .boolean) 2 [.ref (G.2.2.1 0), .int x1, .int x2] S0 ((qe_i S0) r) := by
  refine cn_of (own := RX12) (emb := (qe_i S0)) (lv := [(0, .ref (G.2.2.1 0)), (1, .int x1), (2, .int x2)]) rfl rfl (Nat.le_of_ble_eq_true rfl) rfl (fun X => ?_)
  unfold fX12_isWhole
  refine qr_iload_n (n := 1) 2 (dkX12_isWhole (i := 0) rfl) rfl rfl ?_
  refine qr_iconst (n := 2) 1 (dkX12_isWhole (i := 1) rfl) rfl (by decide) ?_
  refine qr_aload_n (n := 3) 0 (dkX12_isWhole (i := 2) rfl) rfl rfl ?_
  refine qr_iload_n (n := 4) 1 (dkX12_isWhole (i := 3) rfl) rfl rfl ?_
  refine qr_cvi (n := 7) 0 [.int x1] (dkX12_isWhole (i := 4) rfl) rfl kvX12_368 rfl rfl (Nat.le_of_ble_eq_true rfl) rfl rfl lmO rfl (wX12_longFor G S0 x1) (fun r_1 => ?_)
  refine qr_ishl (n := 8) (dkX12_isWhole (i := 5) rfl) rfl ?_
  refine qr_iconst (n := 9) 1 (dkX12_isWhole (i := 6) rfl) rfl (by decide) ?_
  refine qr_isub (n := 10) (dkX12_isWhole (i := 7) rfl) rfl ?_
  refine qr_icmp_ne (t := 17) (n := 13) (dkX12_isWhole (i := 8) rfl) (by decide) rfl ?_ ?_
  · refine qr_iconst (n := 18) 0 (dkX12_isWhole (i := 11) rfl) rfl (by decide) ?_
    exact qr_zretc (dkX12_isWhole (i := 12) rfl) rfl rfl rfl
  · refine qr_iconst (n := 14) 1 (dkX12_isWhole (i := 9) rfl) rfl (by decide) ?_
    refine qr_goto (n := 18) (dkX12_isWhole (i := 10) rfl) (by decide) ?_
    exact qr_zretc (dkX12_isWhole (i := 12) rfl) rfl rfl rfl
def tbX12_isGood : List (Nat × Instr × Nat) := [(0, .aload_n 0, 1), (1, .iload_n 1, 1), (2, .aload_n 0, 1), (3, .iload_n 1, 1), (4, .iload_n 2, 1), (5, .invokevirtual 374, 3), (8, .invokevirtual 377, 3), (11, .ireturn, 1)]
set_option maxRecDepth 20000 in
theorem daX12_isGood : ∀ x ∈ tbX12_isGood, decode cX12_isGood x.1 = .ok x.2 := by decide +kernel
theorem dkX12_isGood {i pc n : Nat} {ins : Instr} (h : tbX12_isGood[i]? = some (pc, ins, n)) : decode cX12_isGood pc = .ok (ins, n) := daX12_isGood (pc, ins, n) (List.mem_of_getElem? h)
def fX12_isGood (S0 : qv_St) (x1 : Int32) (x2 : Int32) : Option (qv_St × Int32) :=
  qv_cm (fX12_clearFrom S0 x1 x2) fun S_1 r_1 =>
  (fX12_isWhole S_1 x1 r_1).bind fun r_2 =>
  qv_rz r_2 (some (S_1, r_2))
set_option maxRecDepth 20000 in
set_option maxHeartbeats 4000000 in
theorem wX12_isGood (G : qv_GT) (S0 : qv_St) (x1 : Int32) (x2 : Int32) : ∀ r, fX12_isGood S0 x1 x2 = some r → Cn G Lm yX12_isGood cX12_isGood 3 (some .boolean) 5 [.ref (G.2.2.1 0), .int x1, .int x2] S0 (qe_m r) := by
  refine cn_of (own := RX12) (emb := qe_m) (lv := [(0, .ref (G.2.2.1 0)), (1, .int x1), (2, .int x2)]) rfl rfl (Nat.le_of_ble_eq_true rfl) rfl (fun X => ?_)
  unfold fX12_isGood
  refine qr_aload_n (n := 1) 0 (dkX12_isGood (i := 0) rfl) rfl rfl ?_
  refine qr_iload_n (n := 2) 1 (dkX12_isGood (i := 1) rfl) rfl rfl ?_
  refine qr_aload_n (n := 3) 0 (dkX12_isGood (i := 2) rfl) rfl rfl ?_
  refine qr_iload_n (n := 4) 1 (dkX12_isGood (i := 3) rfl) rfl rfl ?_
  refine qr_iload_n (n := 5) 2 (dkX12_isGood (i := 4) rfl) rfl rfl ?_
  refine qr_cvm (n := 8) 0 [.int x1, .int x2] (dkX12_isGood (i := 5) rfl) rfl kvX12_374 rfl rfl (Nat.le_of_ble_eq_true rfl) rfl rfl lmO rfl (wX12_clearFrom G S0 x1 x2) (fun S_1 r_1 => ?_)
  refine qr_cvi (n := 11) 0 [.int x1, .int r_1] (dkX12_isGood (i := 6) rfl) rfl kvX12_377 rfl rfl (Nat.le_of_ble_eq_true rfl) rfl rfl lmO rfl (wX12_isWhole G S_1 x1 r_1) (fun r_2 => ?_)
  exact qr_zret (dkX12_isGood (i := 7) rfl) rfl rfl
def tbX12_isOn : List (Nat × Instr × Nat) := [(0, .aload_n 0, 1), (1, .iload_n 1, 1), (2, .aload_n 0, 1), (3, .getfield 128, 3), (6, .iconst 0, 1), (7, .iaload, 1), (8, .invokevirtual 348, 3), (11, .ifCond .ge 7, 3), (14, .iconst 0, 1), (15, .goto 4, 3), (18, .iconst 1, 1), (19, .ireturn, 1)]
set_option maxRecDepth 20000 in
theorem daX12_isOn : ∀ x ∈ tbX12_isOn, decode cX12_isOn x.1 = .ok x.2 := by decide +kernel
theorem dkX12_isOn {i pc n : Nat} {ins : Instr} (h : tbX12_isOn[i]? = some (pc, ins, n)) : decode cX12_isOn pc = .ok (ins, n) := daX12_isOn (pc, ins, n) (List.mem_of_getElem? h)
def fX12_isOn (S0 : qv_St) (x1 : Int32) : Option Int32 :=
  qv_ck 0 32 <|
  (fX12_ageNow S0 x1 (S0.1 37 (Int32.toNatClampNeg 0))).bind fun r_1 =>
  if 0 ≤ r_1 then
    some 1
  else
    some 0
set_option maxRecDepth 20000 in
set_option maxHeartbeats 4000000 in
theorem wX12_isOn (G : qv_GT) (S0 : qv_St) (x1 : Int32) : ∀ r, fX12_isOn S0 x1 = some r → Cn G Lm yX12_isOn cX12_isOn 2 (some .int) 6 [.ref (G.2.2.1 0), .int x1] S0 ((qe_i S0) r) := by
  refine cn_of (own := RX12) (emb := (qe_i S0)) (lv := [(0, .ref (G.2.2.1 0)), (1, .int x1)]) rfl rfl (Nat.le_of_ble_eq_true rfl) rfl (fun X => ?_)
  unfold fX12_isOn
  refine qr_aload_n (n := 1) 0 (dkX12_isOn (i := 0) rfl) rfl rfl ?_
  refine qr_iload_n (n := 2) 1 (dkX12_isOn (i := 1) rfl) rfl rfl ?_
  refine qr_aload_n (n := 3) 0 (dkX12_isOn (i := 2) rfl) rfl rfl ?_
  refine qr_geta (n := 6) 0 54 37 (dkX12_isOn (i := 3) rfl) rfl lmO rfl gnX12 (Nat.le_of_ble_eq_true rfl) kfX12_128 rfl ?_
  refine qr_iconst (n := 7) 0 (dkX12_isOn (i := 4) rfl) rfl (by decide) ?_
  refine qr_iald (n := 8) 37 32 (dkX12_isOn (i := 5) rfl) rfl lmA_37 ?_
  refine qr_cvi (n := 11) 0 [.int x1, .int (S0.1 37 (Int32.toNatClampNeg 0))] (dkX12_isOn (i := 6) rfl) rfl kvX12_348 rfl rfl (Nat.le_of_ble_eq_true rfl) rfl rfl lmO rfl (wX12_ageNow G S0 x1 (S0.1 37 (Int32.toNatClampNeg 0))) (fun r_1 => ?_)
  refine qr_if_ge (t := 18) (n := 14) (dkX12_isOn (i := 7) rfl) (by decide) rfl ?_ ?_
  · refine qr_iconst (n := 19) 1 (dkX12_isOn (i := 10) rfl) rfl (by decide) ?_
    exact qr_iret (dkX12_isOn (i := 11) rfl) rfl rfl
  · refine qr_iconst (n := 15) 0 (dkX12_isOn (i := 8) rfl) rfl (by decide) ?_
    refine qr_goto (n := 19) (dkX12_isOn (i := 9) rfl) (by decide) ?_
    exact qr_iret (dkX12_isOn (i := 11) rfl) rfl rfl
def tbX12_noise : List (Nat × Instr × Nat) := [(0, .aload_n 0, 1), (1, .iload_n 1, 1), (2, .invokevirtual 381, 3), (5, .ifCond .ne 5, 3), (8, .iconst (-1), 1), (9, .ireturn, 1), (10, .aload_n 0, 1), (11, .invokevirtual 384, 3), (14, .bipush 8, 2), (16, .aload_n 0, 1), (17, .getfield 242, 3), (20, .imul, 1), (21, .iload_n 1, 1), (22, .iadd, 1), (23, .istore_n 3, 1), (24, .iload_n 2, 1), (25, .tableswitch 142 0 8 #[51, 66, 73, 80, 87, 93, 119, 128, 135], 51), (76, .aload_n 0, 1), (77, .getfield 46, 3), (80, .iload_n 3, 1), (81, .baload, 1), (82, .ifCond .eq 7, 3), (85, .iconst 1, 1), (86, .goto 4, 3), (89, .iconst 0, 1), (90, .ireturn, 1), (91, .aload_n 0, 1), (92, .getfield 56, 3), (95, .iload_n 3, 1), (96, .iaload, 1), (97, .ireturn, 1), (98, .aload_n 0, 1), (99, .getfield 59, 3), (102, .iload_n 3, 1), (103, .iaload, 1), (104, .ireturn, 1), (105, .aload_n 0, 1), (106, .getfield 62, 3), (109, .iload_n 3, 1), (110, .iaload, 1), (111, .ireturn, 1), (112, .aload_n 0, 1), (113, .iload_n 1, 1), (114, .invokevirtual 387, 3), (117, .ireturn, 1), (118, .aload_n 0, 1), (119, .iload_n 1, 1), (120, .invokevirtual 387, 3), (123, .iconst 1, 1), (124, .if_icmp .ne 17, 3), (127, .aload_n 0, 1), (128, .iload_n 1, 1), (129, .aload_n 0, 1), (130, .getfield 128, 3), (133, .iconst 0, 1), (134, .iaload, 1), (135, .invokevirtual 348, 3), (138, .goto 5, 3), (141, .bipush (-2), 2), (143, .ireturn, 1), (144, .aload_n 0, 1), (145, .getfield 128, 3), (148, .iconst 4, 1), (149, .iload_n 1, 1), (150, .iadd, 1), (151, .iaload, 1), (152, .ireturn, 1), (153, .aload_n 0, 1), (154, .getfield 50, 3), (157, .iload_n 3, 1), (158, .iaload, 1), (159, .ireturn, 1), (160, .aload_n 0, 1), (161, .getfield 53, 3), (164, .iload_n 3, 1), (165, .iaload, 1), (166, .ireturn, 1), (167, .iconst (-1), 1), (168, .ireturn, 1)]
set_option maxRecDepth 20000 in
theorem daX12_noise : ∀ x ∈ tbX12_noise, decode cX12_noise x.1 = .ok x.2 := by decide +kernel
theorem dkX12_noise {i pc n : Nat} {ins : Instr} (h : tbX12_noise[i]? = some (pc, ins, n)) : decode cX12_noise pc = .ok (ins, n) := daX12_noise (pc, ins, n) (List.mem_of_getElem? h)
def fX12_noise (S0 : qv_St) (x1 : Int32) (x2 : Int32) : Option (qv_St × Int32) :=
  (fX12_isNoise S0 x1).bind fun r_1 =>
  if r_1 = 0 then
    some (S0, (-1))
  else
    (fX12_copies S0).bind fun S_1 =>
    qv_b (((8 * (S_1.1 0 18)) + x1) : Int32) fun x3_1 =>
    qv_sw x2 0 8 [
      qv_ck x3_1 16 <|
      if (S_1.1 10 (Int32.toNatClampNeg x3_1)) = 0 then
        some (S_1, 0)
      else
        some (S_1, 1),
      qv_ck x3_1 16 <|
      some (S_1, (S_1.1 13 (Int32.toNatClampNeg x3_1))),
      qv_ck x3_1 16 <|
      some (S_1, (S_1.1 14 (Int32.toNatClampNeg x3_1))),
      qv_ck x3_1 16 <|
      some (S_1, (S_1.1 15 (Int32.toNatClampNeg x3_1))),
      (fX12_isOn S_1 x1).bind fun r_2 =>
      some (S_1, r_2),
      (fX12_isOn S_1 x1).bind fun r_3 =>
      if r_3 = 1 then
        qv_ck 0 32 <|
        (fX12_ageNow S_1 x1 (S_1.1 37 (Int32.toNatClampNeg 0))).bind fun r_4 =>
        some (S_1, r_4)
      else
        some (S_1, (-2)),
      qv_ck (4 + x1) 32 <|
      some (S_1, (S_1.1 37 (Int32.toNatClampNeg (4 + x1)))),
      qv_ck x3_1 16 <|
      some (S_1, (S_1.1 11 (Int32.toNatClampNeg x3_1))),
      qv_ck x3_1 16 <|
      some (S_1, (S_1.1 12 (Int32.toNatClampNeg x3_1)))] (
      some (S_1, (-1)))
set_option maxRecDepth 20000 in
set_option maxHeartbeats 4000000 in
theorem wX12_noise (G : qv_GT) (S0 : qv_St) (x1 : Int32) (x2 : Int32) : ∀ r, fX12_noise S0 x1 x2 = some r → Cn G Lm yX12_noise cX12_noise 4 (some .int) 7 [.ref (G.2.2.1 0), .int x1, .int x2] S0 (qe_m r) := by
  refine cn_of (own := RX12) (emb := qe_m) (lv := [(0, .ref (G.2.2.1 0)), (1, .int x1), (2, .int x2)]) rfl rfl (Nat.le_of_ble_eq_true rfl) rfl (fun X => ?_)
  unfold fX12_noise
  refine qr_aload_n (n := 1) 0 (dkX12_noise (i := 0) rfl) rfl rfl ?_
  refine qr_iload_n (n := 2) 1 (dkX12_noise (i := 1) rfl) rfl rfl ?_
  refine qr_cvi (n := 5) 0 [.int x1] (dkX12_noise (i := 2) rfl) rfl kvX12_381 rfl rfl (Nat.le_of_ble_eq_true rfl) rfl rfl lmO rfl (wX12_isNoise G S0 x1) (fun r_1 => ?_)
  refine qr_if_ne (t := 10) (n := 8) (dkX12_noise (i := 3) rfl) (by decide) rfl ?_ ?_
  · refine qr_aload_n (n := 11) 0 (dkX12_noise (i := 6) rfl) rfl rfl ?_
    refine qr_cvu (n := 14) 0 [] (dkX12_noise (i := 7) rfl) rfl kvX12_384 rfl rfl (Nat.le_of_ble_eq_true rfl) rfl rfl lmO rfl (wX12_copies G S0) (fun S_1 => ?_)
    refine qr_bipush (n := 16) 8 (dkX12_noise (i := 8) rfl) rfl (by decide) ?_
    refine qr_aload_n (n := 17) 0 (dkX12_noise (i := 9) rfl) rfl rfl ?_
    refine qr_geti (n := 20) 0 18 (dkX12_noise (i := 10) rfl) rfl lmO rfl gnX12 (Nat.le_of_ble_eq_true rfl) kfX12_242 rfl ?_
    refine qr_imul (n := 21) (dkX12_noise (i := 11) rfl) rfl ?_
    refine qr_iload_n (n := 22) 1 (dkX12_noise (i := 12) rfl) rfl rfl ?_
    refine qr_iadd (n := 23) (dkX12_noise (i := 13) rfl) rfl ?_
    refine qr_b (α := Int32) ((8 * (S_1.1 0 18)) + x1) (lvf := fun _ => [(0, .ref (G.2.2.1 0)), (1, .int x1), (2, .int x2)]) (stf := fun z => .int z :: []) (Sf := fun _ => S_1) (fun x3_1 => ?_)
    refine qr_istore_n (n := 24) (lv2 := [(0, .ref (G.2.2.1 0)), (1, .int x1), (2, .int x2), (3, .int x3_1)]) [1, 2, 3, 0] (dkX12_noise (i := 14) rfl) rfl rfl (by decide) rfl ?_
    refine qr_iload_n (n := 25) 2 (dkX12_noise (i := 15) rfl) rfl rfl ?_
    refine qr_sw (td := 167) (dkX12_noise (i := 16) rfl) (by decide) ?_ ⟨⟨76, by decide, ?_⟩, ⟨91, by decide, ?_⟩, ⟨98, by decide, ?_⟩, ⟨105, by decide, ?_⟩, ⟨112, by decide, ?_⟩, ⟨118, by decide, ?_⟩, ⟨144, by decide, ?_⟩, ⟨153, by decide, ?_⟩, ⟨160, by decide, ?_⟩, trivial⟩
    · refine qr_iconst (n := 168) (-1) (dkX12_noise (i := 77) rfl) rfl (by decide) ?_
      exact qr_iret (dkX12_noise (i := 78) rfl) rfl rfl
    · refine qr_aload_n (n := 77) 0 (dkX12_noise (i := 17) rfl) rfl rfl ?_
      refine qr_geta (n := 80) 0 23 10 (dkX12_noise (i := 18) rfl) rfl lmO rfl gnX12 (Nat.le_of_ble_eq_true rfl) kfX12_46 rfl ?_
      refine qr_iload_n (n := 81) 3 (dkX12_noise (i := 19) rfl) rfl rfl ?_
      refine qr_zald (n := 82) 10 16 (dkX12_noise (i := 20) rfl) rfl lmA_10 ?_
      refine qr_if_eq (t := 89) (n := 85) (dkX12_noise (i := 21) rfl) (by decide) rfl ?_ ?_
      · refine qr_iconst (n := 90) 0 (dkX12_noise (i := 24) rfl) rfl (by decide) ?_
        exact qr_iret (dkX12_noise (i := 25) rfl) rfl rfl
      · refine qr_iconst (n := 86) 1 (dkX12_noise (i := 22) rfl) rfl (by decide) ?_
        refine qr_goto (n := 90) (dkX12_noise (i := 23) rfl) (by decide) ?_
        exact qr_iret (dkX12_noise (i := 25) rfl) rfl rfl
    · refine qr_aload_n (n := 92) 0 (dkX12_noise (i := 26) rfl) rfl rfl ?_
      refine qr_geta (n := 95) 0 26 13 (dkX12_noise (i := 27) rfl) rfl lmO rfl gnX12 (Nat.le_of_ble_eq_true rfl) kfX12_56 rfl ?_
      refine qr_iload_n (n := 96) 3 (dkX12_noise (i := 28) rfl) rfl rfl ?_
      refine qr_iald (n := 97) 13 16 (dkX12_noise (i := 29) rfl) rfl lmA_13 ?_
      exact qr_iret (dkX12_noise (i := 30) rfl) rfl rfl
    · refine qr_aload_n (n := 99) 0 (dkX12_noise (i := 31) rfl) rfl rfl ?_
      refine qr_geta (n := 102) 0 27 14 (dkX12_noise (i := 32) rfl) rfl lmO rfl gnX12 (Nat.le_of_ble_eq_true rfl) kfX12_59 rfl ?_
      refine qr_iload_n (n := 103) 3 (dkX12_noise (i := 33) rfl) rfl rfl ?_
      refine qr_iald (n := 104) 14 16 (dkX12_noise (i := 34) rfl) rfl lmA_14 ?_
      exact qr_iret (dkX12_noise (i := 35) rfl) rfl rfl
    · refine qr_aload_n (n := 106) 0 (dkX12_noise (i := 36) rfl) rfl rfl ?_
      refine qr_geta (n := 109) 0 28 15 (dkX12_noise (i := 37) rfl) rfl lmO rfl gnX12 (Nat.le_of_ble_eq_true rfl) kfX12_62 rfl ?_
      refine qr_iload_n (n := 110) 3 (dkX12_noise (i := 38) rfl) rfl rfl ?_
      refine qr_iald (n := 111) 15 16 (dkX12_noise (i := 39) rfl) rfl lmA_15 ?_
      exact qr_iret (dkX12_noise (i := 40) rfl) rfl rfl
    · refine qr_aload_n (n := 113) 0 (dkX12_noise (i := 41) rfl) rfl rfl ?_
      refine qr_iload_n (n := 114) 1 (dkX12_noise (i := 42) rfl) rfl rfl ?_
      refine qr_cvi (n := 117) 0 [.int x1] (dkX12_noise (i := 43) rfl) rfl kvX12_387 rfl rfl (Nat.le_of_ble_eq_true rfl) rfl rfl lmO rfl (wX12_isOn G S_1 x1) (fun r_2 => ?_)
      exact qr_iret (dkX12_noise (i := 44) rfl) rfl rfl
    · refine qr_aload_n (n := 119) 0 (dkX12_noise (i := 45) rfl) rfl rfl ?_
      refine qr_iload_n (n := 120) 1 (dkX12_noise (i := 46) rfl) rfl rfl ?_
      refine qr_cvi (n := 123) 0 [.int x1] (dkX12_noise (i := 47) rfl) rfl kvX12_387 rfl rfl (Nat.le_of_ble_eq_true rfl) rfl rfl lmO rfl (wX12_isOn G S_1 x1) (fun r_3 => ?_)
      refine qr_iconst (n := 124) 1 (dkX12_noise (i := 48) rfl) rfl (by decide) ?_
      refine qr_icmp_ne (t := 141) (n := 127) (dkX12_noise (i := 49) rfl) (by decide) rfl ?_ ?_
      · refine qr_bipush (n := 143) (-2) (dkX12_noise (i := 58) rfl) rfl (by decide) ?_
        exact qr_iret (dkX12_noise (i := 59) rfl) rfl rfl
      · refine qr_aload_n (n := 128) 0 (dkX12_noise (i := 50) rfl) rfl rfl ?_
        refine qr_iload_n (n := 129) 1 (dkX12_noise (i := 51) rfl) rfl rfl ?_
        refine qr_aload_n (n := 130) 0 (dkX12_noise (i := 52) rfl) rfl rfl ?_
        refine qr_geta (n := 133) 0 54 37 (dkX12_noise (i := 53) rfl) rfl lmO rfl gnX12 (Nat.le_of_ble_eq_true rfl) kfX12_128 rfl ?_
        refine qr_iconst (n := 134) 0 (dkX12_noise (i := 54) rfl) rfl (by decide) ?_
        refine qr_iald (n := 135) 37 32 (dkX12_noise (i := 55) rfl) rfl lmA_37 ?_
        refine qr_cvi (n := 138) 0 [.int x1, .int (S_1.1 37 (Int32.toNatClampNeg 0))] (dkX12_noise (i := 56) rfl) rfl kvX12_348 rfl rfl (Nat.le_of_ble_eq_true rfl) rfl rfl lmO rfl (wX12_ageNow G S_1 x1 (S_1.1 37 (Int32.toNatClampNeg 0))) (fun r_4 => ?_)
        refine qr_goto (n := 143) (dkX12_noise (i := 57) rfl) (by decide) ?_
        exact qr_iret (dkX12_noise (i := 59) rfl) rfl rfl
    · refine qr_aload_n (n := 145) 0 (dkX12_noise (i := 60) rfl) rfl rfl ?_
      refine qr_geta (n := 148) 0 54 37 (dkX12_noise (i := 61) rfl) rfl lmO rfl gnX12 (Nat.le_of_ble_eq_true rfl) kfX12_128 rfl ?_
      refine qr_iconst (n := 149) 4 (dkX12_noise (i := 62) rfl) rfl (by decide) ?_
      refine qr_iload_n (n := 150) 1 (dkX12_noise (i := 63) rfl) rfl rfl ?_
      refine qr_iadd (n := 151) (dkX12_noise (i := 64) rfl) rfl ?_
      refine qr_iald (n := 152) 37 32 (dkX12_noise (i := 65) rfl) rfl lmA_37 ?_
      exact qr_iret (dkX12_noise (i := 66) rfl) rfl rfl
    · refine qr_aload_n (n := 154) 0 (dkX12_noise (i := 67) rfl) rfl rfl ?_
      refine qr_geta (n := 157) 0 24 11 (dkX12_noise (i := 68) rfl) rfl lmO rfl gnX12 (Nat.le_of_ble_eq_true rfl) kfX12_50 rfl ?_
      refine qr_iload_n (n := 158) 3 (dkX12_noise (i := 69) rfl) rfl rfl ?_
      refine qr_iald (n := 159) 11 16 (dkX12_noise (i := 70) rfl) rfl lmA_11 ?_
      exact qr_iret (dkX12_noise (i := 71) rfl) rfl rfl
    · refine qr_aload_n (n := 161) 0 (dkX12_noise (i := 72) rfl) rfl rfl ?_
      refine qr_geta (n := 164) 0 25 12 (dkX12_noise (i := 73) rfl) rfl lmO rfl gnX12 (Nat.le_of_ble_eq_true rfl) kfX12_53 rfl ?_
      refine qr_iload_n (n := 165) 3 (dkX12_noise (i := 74) rfl) rfl rfl ?_
      refine qr_iald (n := 166) 12 16 (dkX12_noise (i := 75) rfl) rfl lmA_12 ?_
      exact qr_iret (dkX12_noise (i := 76) rfl) rfl rfl
  · refine qr_iconst (n := 9) (-1) (dkX12_noise (i := 4) rfl) rfl (by decide) ?_
    exact qr_iret (dkX12_noise (i := 5) rfl) rfl rfl
def tbX12_shot : List (Nat × Instr × Nat) := [(0, .aload_n 0, 1), (1, .iload_n 1, 1), (2, .invokevirtual 390, 3), (5, .ifCond .ne 5, 3), (8, .iconst (-1), 1), (9, .ireturn, 1), (10, .aload_n 0, 1), (11, .invokevirtual 384, 3), (14, .iload_n 2, 1), (15, .tableswitch 111 0 5 #[37, 43, 58, 68, 91, 101], 37), (52, .aload_n 0, 1), (53, .iload_n 1, 1), (54, .invokevirtual 368, 3), (57, .ireturn, 1), (58, .aload_n 0, 1), (59, .getfield 77, 3), (62, .bipush 6, 2), (64, .aload_n 0, 1), (65, .getfield 242, 3), (68, .imul, 1), (69, .iload_n 1, 1), (70, .iadd, 1), (71, .iaload, 1), (72, .ireturn, 1), (73, .aload_n 0, 1), (74, .getfield 128, 3), (77, .bipush 12, 2), (79, .iload_n 1, 1), (80, .iadd, 1), (81, .iaload, 1), (82, .ireturn, 1), (83, .aload_n 0, 1), (84, .iload_n 1, 1), (85, .aload_n 0, 1), (86, .getfield 128, 3), (89, .bipush 12, 2), (91, .iload_n 1, 1), (92, .iadd, 1), (93, .iaload, 1), (94, .invokevirtual 377, 3), (97, .ifCond .eq 7, 3), (100, .iconst 1, 1), (101, .goto 4, 3), (104, .iconst 0, 1), (105, .ireturn, 1), (106, .aload_n 0, 1), (107, .getfield 128, 3), (110, .bipush 18, 2), (112, .iload_n 1, 1), (113, .iadd, 1), (114, .iaload, 1), (115, .ireturn, 1), (116, .aload_n 0, 1), (117, .getfield 128, 3), (120, .bipush 24, 2), (122, .iload_n 1, 1), (123, .iadd, 1), (124, .iaload, 1), (125, .ireturn, 1), (126, .iconst (-1), 1), (127, .ireturn, 1)]
set_option maxRecDepth 20000 in
theorem daX12_shot : ∀ x ∈ tbX12_shot, decode cX12_shot x.1 = .ok x.2 := by decide +kernel
theorem dkX12_shot {i pc n : Nat} {ins : Instr} (h : tbX12_shot[i]? = some (pc, ins, n)) : decode cX12_shot pc = .ok (ins, n) := daX12_shot (pc, ins, n) (List.mem_of_getElem? h)
def fX12_shot (S0 : qv_St) (x1 : Int32) (x2 : Int32) : Option (qv_St × Int32) :=
  (fX12_isShot S0 x1).bind fun r_1 =>
  if r_1 = 0 then
    some (S0, (-1))
  else
    (fX12_copies S0).bind fun S_1 =>
    qv_sw x2 0 5 [
      (fX12_longFor S_1 x1).bind fun r_2 =>
      some (S_1, r_2),
      qv_ck ((6 * (S_1.1 0 18)) + x1) 12 <|
      some (S_1, (S_1.1 20 (Int32.toNatClampNeg ((6 * (S_1.1 0 18)) + x1)))),
      qv_ck (12 + x1) 32 <|
      some (S_1, (S_1.1 37 (Int32.toNatClampNeg (12 + x1)))),
      qv_ck (12 + x1) 32 <|
      (fX12_isWhole S_1 x1 (S_1.1 37 (Int32.toNatClampNeg (12 + x1)))).bind fun r_3 =>
      if r_3 = 0 then
        some (S_1, 0)
      else
        some (S_1, 1),
      qv_ck (18 + x1) 32 <|
      some (S_1, (S_1.1 37 (Int32.toNatClampNeg (18 + x1)))),
      qv_ck (24 + x1) 32 <|
      some (S_1, (S_1.1 37 (Int32.toNatClampNeg (24 + x1))))] (
      some (S_1, (-1)))
set_option maxRecDepth 20000 in
set_option maxHeartbeats 4000000 in
theorem wX12_shot (G : qv_GT) (S0 : qv_St) (x1 : Int32) (x2 : Int32) : ∀ r, fX12_shot S0 x1 x2 = some r → Cn G Lm yX12_shot cX12_shot 3 (some .int) 3 [.ref (G.2.2.1 0), .int x1, .int x2] S0 (qe_m r) := by
  refine cn_of (own := RX12) (emb := qe_m) (lv := [(0, .ref (G.2.2.1 0)), (1, .int x1), (2, .int x2)]) rfl rfl (Nat.le_of_ble_eq_true rfl) rfl (fun X => ?_)
  unfold fX12_shot
  refine qr_aload_n (n := 1) 0 (dkX12_shot (i := 0) rfl) rfl rfl ?_
  refine qr_iload_n (n := 2) 1 (dkX12_shot (i := 1) rfl) rfl rfl ?_
  refine qr_cvi (n := 5) 0 [.int x1] (dkX12_shot (i := 2) rfl) rfl kvX12_390 rfl rfl (Nat.le_of_ble_eq_true rfl) rfl rfl lmO rfl (wX12_isShot G S0 x1) (fun r_1 => ?_)
  refine qr_if_ne (t := 10) (n := 8) (dkX12_shot (i := 3) rfl) (by decide) rfl ?_ ?_
  · refine qr_aload_n (n := 11) 0 (dkX12_shot (i := 6) rfl) rfl rfl ?_
    refine qr_cvu (n := 14) 0 [] (dkX12_shot (i := 7) rfl) rfl kvX12_384 rfl rfl (Nat.le_of_ble_eq_true rfl) rfl rfl lmO rfl (wX12_copies G S0) (fun S_1 => ?_)
    refine qr_iload_n (n := 15) 2 (dkX12_shot (i := 8) rfl) rfl rfl ?_
    refine qr_sw (td := 126) (dkX12_shot (i := 9) rfl) (by decide) ?_ ⟨⟨52, by decide, ?_⟩, ⟨58, by decide, ?_⟩, ⟨73, by decide, ?_⟩, ⟨83, by decide, ?_⟩, ⟨106, by decide, ?_⟩, ⟨116, by decide, ?_⟩, trivial⟩
    · refine qr_iconst (n := 127) (-1) (dkX12_shot (i := 59) rfl) rfl (by decide) ?_
      exact qr_iret (dkX12_shot (i := 60) rfl) rfl rfl
    · refine qr_aload_n (n := 53) 0 (dkX12_shot (i := 10) rfl) rfl rfl ?_
      refine qr_iload_n (n := 54) 1 (dkX12_shot (i := 11) rfl) rfl rfl ?_
      refine qr_cvi (n := 57) 0 [.int x1] (dkX12_shot (i := 12) rfl) rfl kvX12_368 rfl rfl (Nat.le_of_ble_eq_true rfl) rfl rfl lmO rfl (wX12_longFor G S_1 x1) (fun r_2 => ?_)
      exact qr_iret (dkX12_shot (i := 13) rfl) rfl rfl
    · refine qr_aload_n (n := 59) 0 (dkX12_shot (i := 14) rfl) rfl rfl ?_
      refine qr_geta (n := 62) 0 33 20 (dkX12_shot (i := 15) rfl) rfl lmO rfl gnX12 (Nat.le_of_ble_eq_true rfl) kfX12_77 rfl ?_
      refine qr_bipush (n := 64) 6 (dkX12_shot (i := 16) rfl) rfl (by decide) ?_
      refine qr_aload_n (n := 65) 0 (dkX12_shot (i := 17) rfl) rfl rfl ?_
      refine qr_geti (n := 68) 0 18 (dkX12_shot (i := 18) rfl) rfl lmO rfl gnX12 (Nat.le_of_ble_eq_true rfl) kfX12_242 rfl ?_
      refine qr_imul (n := 69) (dkX12_shot (i := 19) rfl) rfl ?_
      refine qr_iload_n (n := 70) 1 (dkX12_shot (i := 20) rfl) rfl rfl ?_
      refine qr_iadd (n := 71) (dkX12_shot (i := 21) rfl) rfl ?_
      refine qr_iald (n := 72) 20 12 (dkX12_shot (i := 22) rfl) rfl lmA_20 ?_
      exact qr_iret (dkX12_shot (i := 23) rfl) rfl rfl
    · refine qr_aload_n (n := 74) 0 (dkX12_shot (i := 24) rfl) rfl rfl ?_
      refine qr_geta (n := 77) 0 54 37 (dkX12_shot (i := 25) rfl) rfl lmO rfl gnX12 (Nat.le_of_ble_eq_true rfl) kfX12_128 rfl ?_
      refine qr_bipush (n := 79) 12 (dkX12_shot (i := 26) rfl) rfl (by decide) ?_
      refine qr_iload_n (n := 80) 1 (dkX12_shot (i := 27) rfl) rfl rfl ?_
      refine qr_iadd (n := 81) (dkX12_shot (i := 28) rfl) rfl ?_
      refine qr_iald (n := 82) 37 32 (dkX12_shot (i := 29) rfl) rfl lmA_37 ?_
      exact qr_iret (dkX12_shot (i := 30) rfl) rfl rfl
    · refine qr_aload_n (n := 84) 0 (dkX12_shot (i := 31) rfl) rfl rfl ?_
      refine qr_iload_n (n := 85) 1 (dkX12_shot (i := 32) rfl) rfl rfl ?_
      refine qr_aload_n (n := 86) 0 (dkX12_shot (i := 33) rfl) rfl rfl ?_
      refine qr_geta (n := 89) 0 54 37 (dkX12_shot (i := 34) rfl) rfl lmO rfl gnX12 (Nat.le_of_ble_eq_true rfl) kfX12_128 rfl ?_
      refine qr_bipush (n := 91) 12 (dkX12_shot (i := 35) rfl) rfl (by decide) ?_
      refine qr_iload_n (n := 92) 1 (dkX12_shot (i := 36) rfl) rfl rfl ?_
      refine qr_iadd (n := 93) (dkX12_shot (i := 37) rfl) rfl ?_
      refine qr_iald (n := 94) 37 32 (dkX12_shot (i := 38) rfl) rfl lmA_37 ?_
      refine qr_cvi (n := 97) 0 [.int x1, .int (S_1.1 37 (Int32.toNatClampNeg (12 + x1)))] (dkX12_shot (i := 39) rfl) rfl kvX12_377 rfl rfl (Nat.le_of_ble_eq_true rfl) rfl rfl lmO rfl (wX12_isWhole G S_1 x1 (S_1.1 37 (Int32.toNatClampNeg (12 + x1)))) (fun r_3 => ?_)
      refine qr_if_eq (t := 104) (n := 100) (dkX12_shot (i := 40) rfl) (by decide) rfl ?_ ?_
      · refine qr_iconst (n := 105) 0 (dkX12_shot (i := 43) rfl) rfl (by decide) ?_
        exact qr_iret (dkX12_shot (i := 44) rfl) rfl rfl
      · refine qr_iconst (n := 101) 1 (dkX12_shot (i := 41) rfl) rfl (by decide) ?_
        refine qr_goto (n := 105) (dkX12_shot (i := 42) rfl) (by decide) ?_
        exact qr_iret (dkX12_shot (i := 44) rfl) rfl rfl
    · refine qr_aload_n (n := 107) 0 (dkX12_shot (i := 45) rfl) rfl rfl ?_
      refine qr_geta (n := 110) 0 54 37 (dkX12_shot (i := 46) rfl) rfl lmO rfl gnX12 (Nat.le_of_ble_eq_true rfl) kfX12_128 rfl ?_
      refine qr_bipush (n := 112) 18 (dkX12_shot (i := 47) rfl) rfl (by decide) ?_
      refine qr_iload_n (n := 113) 1 (dkX12_shot (i := 48) rfl) rfl rfl ?_
      refine qr_iadd (n := 114) (dkX12_shot (i := 49) rfl) rfl ?_
      refine qr_iald (n := 115) 37 32 (dkX12_shot (i := 50) rfl) rfl lmA_37 ?_
      exact qr_iret (dkX12_shot (i := 51) rfl) rfl rfl
    · refine qr_aload_n (n := 117) 0 (dkX12_shot (i := 52) rfl) rfl rfl ?_
      refine qr_geta (n := 120) 0 54 37 (dkX12_shot (i := 53) rfl) rfl lmO rfl gnX12 (Nat.le_of_ble_eq_true rfl) kfX12_128 rfl ?_
      refine qr_bipush (n := 122) 24 (dkX12_shot (i := 54) rfl) rfl (by decide) ?_
      refine qr_iload_n (n := 123) 1 (dkX12_shot (i := 55) rfl) rfl rfl ?_
      refine qr_iadd (n := 124) (dkX12_shot (i := 56) rfl) rfl ?_
      refine qr_iald (n := 125) 37 32 (dkX12_shot (i := 57) rfl) rfl lmA_37 ?_
      exact qr_iret (dkX12_shot (i := 58) rfl) rfl rfl
  · refine qr_iconst (n := 9) (-1) (dkX12_shot (i := 4) rfl) rfl (by decide) ?_
    exact qr_iret (dkX12_shot (i := 5) rfl) rfl rfl
def tbX12_heard : List (Nat × Instr × Nat) := [(0, .aload_n 0, 1), (1, .iload_n 1, 1), (2, .invokevirtual 381, 3), (5, .ifCond .eq 22, 3), (8, .aload_n 0, 1), (9, .iload_n 2, 1), (10, .invokevirtual 393, 3), (13, .ifCond .eq 14, 3), (16, .iload_n 3, 1), (17, .iconst 0, 1), (18, .sipush 300, 3), (21, .invokestatic 319, 3), (24, .ifCond .ne 5, 3), (27, .iconst (-1), 1), (28, .ireturn, 1), (29, .aload_n 0, 1), (30, .invokevirtual 384, 3), (33, .aload_n 0, 1), (34, .iload_n 1, 1), (35, .iload_n 2, 1), (36, .aload_n 0, 1), (37, .getfield 128, 3), (40, .iconst 0, 1), (41, .iaload, 1), (42, .iload_n 3, 1), (43, .iadd, 1), (44, .invokevirtual 355, 3), (47, .ireturn, 1)]
set_option maxRecDepth 20000 in
theorem daX12_heard : ∀ x ∈ tbX12_heard, decode cX12_heard x.1 = .ok x.2 := by decide +kernel
theorem dkX12_heard {i pc n : Nat} {ins : Instr} (h : tbX12_heard[i]? = some (pc, ins, n)) : decode cX12_heard pc = .ok (ins, n) := daX12_heard (pc, ins, n) (List.mem_of_getElem? h)
def fX12_heard (S0 : qv_St) (x1 : Int32) (x2 : Int32) (x3 : Int32) : Option (qv_St × Int32) :=
  (fX12_isNoise S0 x1).bind fun r_1 =>
  if r_1 = 0 then
    some (S0, (-1))
  else
    (fX12_isPlace S0 x2).bind fun r_2 =>
    if r_2 = 0 then
      some (S0, (-1))
    else
      (fX12_in x3 0 300).bind fun r_3 =>
      if r_3 = 0 then
        some (S0, (-1))
      else
        (fX12_copies S0).bind fun S_1 =>
        qv_ck 0 32 <|
        qv_cm (fX12_heardNow S_1 x1 x2 ((S_1.1 37 (Int32.toNatClampNeg 0)) + x3)) fun S_2 r_4 =>
        some (S_2, r_4)
set_option maxRecDepth 20000 in
set_option maxHeartbeats 4000000 in
theorem wX12_heard (G : qv_GT) (S0 : qv_St) (x1 : Int32) (x2 : Int32) (x3 : Int32) : ∀ r, fX12_heard S0 x1 x2 x3 = some r → Cn G Lm yX12_heard cX12_heard 4 (some .int) 7 [.ref (G.2.2.1 0), .int x1, .int x2, .int x3] S0 (qe_m r) := by
  refine cn_of (own := RX12) (emb := qe_m) (lv := [(0, .ref (G.2.2.1 0)), (1, .int x1), (2, .int x2), (3, .int x3)]) rfl rfl (Nat.le_of_ble_eq_true rfl) rfl (fun X => ?_)
  unfold fX12_heard
  refine qr_aload_n (n := 1) 0 (dkX12_heard (i := 0) rfl) rfl rfl ?_
  refine qr_iload_n (n := 2) 1 (dkX12_heard (i := 1) rfl) rfl rfl ?_
  refine qr_cvi (n := 5) 0 [.int x1] (dkX12_heard (i := 2) rfl) rfl kvX12_381 rfl rfl (Nat.le_of_ble_eq_true rfl) rfl rfl lmO rfl (wX12_isNoise G S0 x1) (fun r_1 => ?_)
  refine qr_if_eq (t := 27) (n := 8) (dkX12_heard (i := 3) rfl) (by decide) rfl ?_ ?_
  · refine qr_iconst (n := 28) (-1) (dkX12_heard (i := 13) rfl) rfl (by decide) ?_
    exact qr_iret (dkX12_heard (i := 14) rfl) rfl rfl
  · refine qr_aload_n (n := 9) 0 (dkX12_heard (i := 4) rfl) rfl rfl ?_
    refine qr_iload_n (n := 10) 2 (dkX12_heard (i := 5) rfl) rfl rfl ?_
    refine qr_cvi (n := 13) 0 [.int x2] (dkX12_heard (i := 6) rfl) rfl kvX12_393 rfl rfl (Nat.le_of_ble_eq_true rfl) rfl rfl lmO rfl (wX12_isPlace G S0 x2) (fun r_2 => ?_)
    refine qr_if_eq (t := 27) (n := 16) (dkX12_heard (i := 7) rfl) (by decide) rfl ?_ ?_
    · refine qr_iconst (n := 28) (-1) (dkX12_heard (i := 13) rfl) rfl (by decide) ?_
      exact qr_iret (dkX12_heard (i := 14) rfl) rfl rfl
    · refine qr_iload_n (n := 17) 3 (dkX12_heard (i := 8) rfl) rfl rfl ?_
      refine qr_iconst (n := 18) 0 (dkX12_heard (i := 9) rfl) rfl (by decide) ?_
      refine qr_sipush (n := 21) 300 (dkX12_heard (i := 10) rfl) rfl (by decide) ?_
      refine qr_csi (n := 24) [.int x3, .int 0, .int 300] (dkX12_heard (i := 11) rfl) rfl kvX12_319 rfl rfl (Nat.le_of_ble_eq_true rfl) rfl rfl (wX12_in G S0 x3 0 300) (fun r_3 => ?_)
      refine qr_if_ne (t := 29) (n := 27) (dkX12_heard (i := 12) rfl) (by decide) rfl ?_ ?_
      · refine qr_aload_n (n := 30) 0 (dkX12_heard (i := 15) rfl) rfl rfl ?_
        refine qr_cvu (n := 33) 0 [] (dkX12_heard (i := 16) rfl) rfl kvX12_384 rfl rfl (Nat.le_of_ble_eq_true rfl) rfl rfl lmO rfl (wX12_copies G S0) (fun S_1 => ?_)
        refine qr_aload_n (n := 34) 0 (dkX12_heard (i := 17) rfl) rfl rfl ?_
        refine qr_iload_n (n := 35) 1 (dkX12_heard (i := 18) rfl) rfl rfl ?_
        refine qr_iload_n (n := 36) 2 (dkX12_heard (i := 19) rfl) rfl rfl ?_
        refine qr_aload_n (n := 37) 0 (dkX12_heard (i := 20) rfl) rfl rfl ?_
        refine qr_geta (n := 40) 0 54 37 (dkX12_heard (i := 21) rfl) rfl lmO rfl gnX12 (Nat.le_of_ble_eq_true rfl) kfX12_128 rfl ?_
        refine qr_iconst (n := 41) 0 (dkX12_heard (i := 22) rfl) rfl (by decide) ?_
        refine qr_iald (n := 42) 37 32 (dkX12_heard (i := 23) rfl) rfl lmA_37 ?_
        refine qr_iload_n (n := 43) 3 (dkX12_heard (i := 24) rfl) rfl rfl ?_
        refine qr_iadd (n := 44) (dkX12_heard (i := 25) rfl) rfl ?_
        refine qr_cvm (n := 47) 0 [.int x1, .int x2, .int ((S_1.1 37 (Int32.toNatClampNeg 0)) + x3)] (dkX12_heard (i := 26) rfl) rfl kvX12_355 rfl rfl (Nat.le_of_ble_eq_true rfl) rfl rfl lmO rfl (wX12_heardNow G S_1 x1 x2 ((S_1.1 37 (Int32.toNatClampNeg 0)) + x3)) (fun S_2 r_4 => ?_)
        exact qr_iret (dkX12_heard (i := 27) rfl) rfl rfl
      · refine qr_iconst (n := 28) (-1) (dkX12_heard (i := 13) rfl) rfl (by decide) ?_
        exact qr_iret (dkX12_heard (i := 14) rfl) rfl rfl
def tbX12_loud : List (Nat × Instr × Nat) := [(0, .aload_n 0, 1), (1, .iload_n 1, 1), (2, .invokevirtual 393, 3), (5, .ifCond .eq 14, 3), (8, .iload_n 2, 1), (9, .iconst 0, 1), (10, .sipush 300, 3), (13, .invokestatic 319, 3), (16, .ifCond .ne 5, 3), (19, .iconst (-1), 1), (20, .ireturn, 1), (21, .aload_n 0, 1), (22, .invokevirtual 384, 3), (25, .aload_n 0, 1), (26, .iload_n 1, 1), (27, .aload_n 0, 1), (28, .getfield 128, 3), (31, .iconst 0, 1), (32, .iaload, 1), (33, .iload_n 2, 1), (34, .iadd, 1), (35, .invokevirtual 365, 3), (38, .ireturn, 1)]
set_option maxRecDepth 20000 in
theorem daX12_loud : ∀ x ∈ tbX12_loud, decode cX12_loud x.1 = .ok x.2 := by decide +kernel
theorem dkX12_loud {i pc n : Nat} {ins : Instr} (h : tbX12_loud[i]? = some (pc, ins, n)) : decode cX12_loud pc = .ok (ins, n) := daX12_loud (pc, ins, n) (List.mem_of_getElem? h)
def fX12_loud (S0 : qv_St) (x1 : Int32) (x2 : Int32) : Option (qv_St × Int32) :=
  (fX12_isPlace S0 x1).bind fun r_1 =>
  if r_1 = 0 then
    some (S0, (-1))
  else
    (fX12_in x2 0 300).bind fun r_2 =>
    if r_2 = 0 then
      some (S0, (-1))
    else
      (fX12_copies S0).bind fun S_1 =>
      qv_ck 0 32 <|
      qv_cm (fX12_loudIn S_1 x1 ((S_1.1 37 (Int32.toNatClampNeg 0)) + x2)) fun S_2 r_3 =>
      some (S_2, r_3)
set_option maxRecDepth 20000 in
set_option maxHeartbeats 4000000 in
theorem wX12_loud (G : qv_GT) (S0 : qv_St) (x1 : Int32) (x2 : Int32) : ∀ r, fX12_loud S0 x1 x2 = some r → Cn G Lm yX12_loud cX12_loud 3 (some .int) 9 [.ref (G.2.2.1 0), .int x1, .int x2] S0 (qe_m r) := by
  refine cn_of (own := RX12) (emb := qe_m) (lv := [(0, .ref (G.2.2.1 0)), (1, .int x1), (2, .int x2)]) rfl rfl (Nat.le_of_ble_eq_true rfl) rfl (fun X => ?_)
  unfold fX12_loud
  refine qr_aload_n (n := 1) 0 (dkX12_loud (i := 0) rfl) rfl rfl ?_
  refine qr_iload_n (n := 2) 1 (dkX12_loud (i := 1) rfl) rfl rfl ?_
  refine qr_cvi (n := 5) 0 [.int x1] (dkX12_loud (i := 2) rfl) rfl kvX12_393 rfl rfl (Nat.le_of_ble_eq_true rfl) rfl rfl lmO rfl (wX12_isPlace G S0 x1) (fun r_1 => ?_)
  refine qr_if_eq (t := 19) (n := 8) (dkX12_loud (i := 3) rfl) (by decide) rfl ?_ ?_
  · refine qr_iconst (n := 20) (-1) (dkX12_loud (i := 9) rfl) rfl (by decide) ?_
    exact qr_iret (dkX12_loud (i := 10) rfl) rfl rfl
  · refine qr_iload_n (n := 9) 2 (dkX12_loud (i := 4) rfl) rfl rfl ?_
    refine qr_iconst (n := 10) 0 (dkX12_loud (i := 5) rfl) rfl (by decide) ?_
    refine qr_sipush (n := 13) 300 (dkX12_loud (i := 6) rfl) rfl (by decide) ?_
    refine qr_csi (n := 16) [.int x2, .int 0, .int 300] (dkX12_loud (i := 7) rfl) rfl kvX12_319 rfl rfl (Nat.le_of_ble_eq_true rfl) rfl rfl (wX12_in G S0 x2 0 300) (fun r_2 => ?_)
    refine qr_if_ne (t := 21) (n := 19) (dkX12_loud (i := 8) rfl) (by decide) rfl ?_ ?_
    · refine qr_aload_n (n := 22) 0 (dkX12_loud (i := 11) rfl) rfl rfl ?_
      refine qr_cvu (n := 25) 0 [] (dkX12_loud (i := 12) rfl) rfl kvX12_384 rfl rfl (Nat.le_of_ble_eq_true rfl) rfl rfl lmO rfl (wX12_copies G S0) (fun S_1 => ?_)
      refine qr_aload_n (n := 26) 0 (dkX12_loud (i := 13) rfl) rfl rfl ?_
      refine qr_iload_n (n := 27) 1 (dkX12_loud (i := 14) rfl) rfl rfl ?_
      refine qr_aload_n (n := 28) 0 (dkX12_loud (i := 15) rfl) rfl rfl ?_
      refine qr_geta (n := 31) 0 54 37 (dkX12_loud (i := 16) rfl) rfl lmO rfl gnX12 (Nat.le_of_ble_eq_true rfl) kfX12_128 rfl ?_
      refine qr_iconst (n := 32) 0 (dkX12_loud (i := 17) rfl) rfl (by decide) ?_
      refine qr_iald (n := 33) 37 32 (dkX12_loud (i := 18) rfl) rfl lmA_37 ?_
      refine qr_iload_n (n := 34) 2 (dkX12_loud (i := 19) rfl) rfl rfl ?_
      refine qr_iadd (n := 35) (dkX12_loud (i := 20) rfl) rfl ?_
      refine qr_cvm (n := 38) 0 [.int x1, .int ((S_1.1 37 (Int32.toNatClampNeg 0)) + x2)] (dkX12_loud (i := 21) rfl) rfl kvX12_365 rfl rfl (Nat.le_of_ble_eq_true rfl) rfl rfl lmO rfl (wX12_loudIn G S_1 x1 ((S_1.1 37 (Int32.toNatClampNeg 0)) + x2)) (fun S_2 r_3 => ?_)
      exact qr_iret (dkX12_loud (i := 22) rfl) rfl rfl
    · refine qr_iconst (n := 20) (-1) (dkX12_loud (i := 9) rfl) rfl (by decide) ?_
      exact qr_iret (dkX12_loud (i := 10) rfl) rfl rfl
def tbX12_bears : List (Nat × Instr × Nat) := [(0, .aload_n 0, 1), (1, .iload_n 1, 1), (2, .invokevirtual 390, 3), (5, .ifCond .eq 18, 3), (8, .iload_n 2, 1), (9, .iconst 0, 1), (10, .aload_n 0, 1), (11, .iload_n 1, 1), (12, .invokevirtual 368, 3), (15, .iconst 1, 1), (16, .isub, 1), (17, .invokestatic 319, 3), (20, .ifCond .ne 5, 3), (23, .iconst (-1), 1), (24, .ireturn, 1), (25, .aload_n 0, 1), (26, .invokevirtual 384, 3), (29, .aload_n 0, 1), (30, .iload_n 1, 1), (31, .iload_n 2, 1), (32, .aload_n 0, 1), (33, .getfield 128, 3), (36, .iconst 0, 1), (37, .iaload, 1), (38, .iload_n 2, 1), (39, .iadd, 1), (40, .invokevirtual 371, 3), (43, .ireturn, 1)]
set_option maxRecDepth 20000 in
theorem daX12_bears : ∀ x ∈ tbX12_bears, decode cX12_bears x.1 = .ok x.2 := by decide +kernel
theorem dkX12_bears {i pc n : Nat} {ins : Instr} (h : tbX12_bears[i]? = some (pc, ins, n)) : decode cX12_bears pc = .ok (ins, n) := daX12_bears (pc, ins, n) (List.mem_of_getElem? h)
def fX12_bears (S0 : qv_St) (x1 : Int32) (x2 : Int32) : Option (qv_St × Int32) :=
  (fX12_isShot S0 x1).bind fun r_1 =>
  if r_1 = 0 then
    some (S0, (-1))
  else
    (fX12_longFor S0 x1).bind fun r_2 =>
    (fX12_in x2 0 (r_2 - 1)).bind fun r_3 =>
    if r_3 = 0 then
      some (S0, (-1))
    else
      (fX12_copies S0).bind fun S_1 =>
      qv_ck 0 32 <|
      qv_cm (fX12_bearsIn S_1 x1 x2 ((S_1.1 37 (Int32.toNatClampNeg 0)) + x2)) fun S_2 r_4 =>
      some (S_2, r_4)
set_option maxRecDepth 20000 in
set_option maxHeartbeats 4000000 in
theorem wX12_bears (G : qv_GT) (S0 : qv_St) (x1 : Int32) (x2 : Int32) : ∀ r, fX12_bears S0 x1 x2 = some r → Cn G Lm yX12_bears cX12_bears 3 (some .int) 4 [.ref (G.2.2.1 0), .int x1, .int x2] S0 (qe_m r) := by
  refine cn_of (own := RX12) (emb := qe_m) (lv := [(0, .ref (G.2.2.1 0)), (1, .int x1), (2, .int x2)]) rfl rfl (Nat.le_of_ble_eq_true rfl) rfl (fun X => ?_)
  unfold fX12_bears
  refine qr_aload_n (n := 1) 0 (dkX12_bears (i := 0) rfl) rfl rfl ?_
  refine qr_iload_n (n := 2) 1 (dkX12_bears (i := 1) rfl) rfl rfl ?_
  refine qr_cvi (n := 5) 0 [.int x1] (dkX12_bears (i := 2) rfl) rfl kvX12_390 rfl rfl (Nat.le_of_ble_eq_true rfl) rfl rfl lmO rfl (wX12_isShot G S0 x1) (fun r_1 => ?_)
  refine qr_if_eq (t := 23) (n := 8) (dkX12_bears (i := 3) rfl) (by decide) rfl ?_ ?_
  · refine qr_iconst (n := 24) (-1) (dkX12_bears (i := 13) rfl) rfl (by decide) ?_
    exact qr_iret (dkX12_bears (i := 14) rfl) rfl rfl
  · refine qr_iload_n (n := 9) 2 (dkX12_bears (i := 4) rfl) rfl rfl ?_
    refine qr_iconst (n := 10) 0 (dkX12_bears (i := 5) rfl) rfl (by decide) ?_
    refine qr_aload_n (n := 11) 0 (dkX12_bears (i := 6) rfl) rfl rfl ?_
    refine qr_iload_n (n := 12) 1 (dkX12_bears (i := 7) rfl) rfl rfl ?_
    refine qr_cvi (n := 15) 0 [.int x1] (dkX12_bears (i := 8) rfl) rfl kvX12_368 rfl rfl (Nat.le_of_ble_eq_true rfl) rfl rfl lmO rfl (wX12_longFor G S0 x1) (fun r_2 => ?_)
    refine qr_iconst (n := 16) 1 (dkX12_bears (i := 9) rfl) rfl (by decide) ?_
    refine qr_isub (n := 17) (dkX12_bears (i := 10) rfl) rfl ?_
    refine qr_csi (n := 20) [.int x2, .int 0, .int (r_2 - 1)] (dkX12_bears (i := 11) rfl) rfl kvX12_319 rfl rfl (Nat.le_of_ble_eq_true rfl) rfl rfl (wX12_in G S0 x2 0 (r_2 - 1)) (fun r_3 => ?_)
    refine qr_if_ne (t := 25) (n := 23) (dkX12_bears (i := 12) rfl) (by decide) rfl ?_ ?_
    · refine qr_aload_n (n := 26) 0 (dkX12_bears (i := 15) rfl) rfl rfl ?_
      refine qr_cvu (n := 29) 0 [] (dkX12_bears (i := 16) rfl) rfl kvX12_384 rfl rfl (Nat.le_of_ble_eq_true rfl) rfl rfl lmO rfl (wX12_copies G S0) (fun S_1 => ?_)
      refine qr_aload_n (n := 30) 0 (dkX12_bears (i := 17) rfl) rfl rfl ?_
      refine qr_iload_n (n := 31) 1 (dkX12_bears (i := 18) rfl) rfl rfl ?_
      refine qr_iload_n (n := 32) 2 (dkX12_bears (i := 19) rfl) rfl rfl ?_
      refine qr_aload_n (n := 33) 0 (dkX12_bears (i := 20) rfl) rfl rfl ?_
      refine qr_geta (n := 36) 0 54 37 (dkX12_bears (i := 21) rfl) rfl lmO rfl gnX12 (Nat.le_of_ble_eq_true rfl) kfX12_128 rfl ?_
      refine qr_iconst (n := 37) 0 (dkX12_bears (i := 22) rfl) rfl (by decide) ?_
      refine qr_iald (n := 38) 37 32 (dkX12_bears (i := 23) rfl) rfl lmA_37 ?_
      refine qr_iload_n (n := 39) 2 (dkX12_bears (i := 24) rfl) rfl rfl ?_
      refine qr_iadd (n := 40) (dkX12_bears (i := 25) rfl) rfl ?_
      refine qr_cvm (n := 43) 0 [.int x1, .int x2, .int ((S_1.1 37 (Int32.toNatClampNeg 0)) + x2)] (dkX12_bears (i := 26) rfl) rfl kvX12_371 rfl rfl (Nat.le_of_ble_eq_true rfl) rfl rfl lmO rfl (wX12_bearsIn G S_1 x1 x2 ((S_1.1 37 (Int32.toNatClampNeg 0)) + x2)) (fun S_2 r_4 => ?_)
      exact qr_iret (dkX12_bears (i := 27) rfl) rfl rfl
    · refine qr_iconst (n := 24) (-1) (dkX12_bears (i := 13) rfl) rfl (by decide) ?_
      exact qr_iret (dkX12_bears (i := 14) rfl) rfl rfl
def tbX12_keeps : List (Nat × Instr × Nat) := [(0, .aload_n 0, 1), (1, .getfield 260, 3), (4, .bipush 40, 2), (6, .if_icmp .ne 43, 3), (9, .iconst 0, 1), (10, .istore_n 1, 1), (11, .iload_n 1, 1), (12, .sipush 1248, 3), (15, .if_icmp .ge 24, 3), (18, .aload_n 0, 1), (19, .getfield 134, 3), (22, .iload_n 1, 1), (23, .aload_n 0, 1), (24, .getfield 134, 3), (27, .iload_n 1, 1), (28, .bipush 32, 2), (30, .iadd, 1), (31, .iaload, 1), (32, .iastore, 1), (33, .iinc 1 1, 3), (36, .goto (-25), 3), (39, .aload_n 0, 1), (40, .dup, 1), (41, .getfield 260, 3), (44, .iconst 1, 1), (45, .isub, 1), (46, .putfield 260, 3), (49, .iconst 0, 1), (50, .istore_n 1, 1), (51, .iload_n 1, 1), (52, .bipush 32, 2), (54, .if_icmp .ge 29, 3), (57, .aload_n 0, 1), (58, .getfield 134, 3), (61, .bipush 32, 2), (63, .aload_n 0, 1), (64, .getfield 260, 3), (67, .imul, 1), (68, .iload_n 1, 1), (69, .iadd, 1), (70, .aload_n 0, 1), (71, .getfield 125, 3), (74, .iload_n 1, 1), (75, .iaload, 1), (76, .iastore, 1), (77, .iinc 1 1, 3), (80, .goto (-29), 3), (83, .aload_n 0, 1), (84, .dup, 1), (85, .getfield 260, 3), (88, .iconst 1, 1), (89, .iadd, 1), (90, .putfield 260, 3), (93, .aload_n 0, 1), (94, .invokevirtual 172, 3), (97, .return_, 1)]
set_option maxRecDepth 20000 in
theorem daX12_keeps : ∀ x ∈ tbX12_keeps, decode cX12_keeps x.1 = .ok x.2 := by decide +kernel
theorem dkX12_keeps {i pc n : Nat} {ins : Instr} (h : tbX12_keeps[i]? = some (pc, ins, n)) : decode cX12_keeps pc = .ok (ins, n) := daX12_keeps (pc, ins, n) (List.mem_of_getElem? h)
def fX12_keeps (S0 : qv_St) : Option qv_St :=
  qv_j (fun (S_1 : qv_St) =>
    qv_j (fun (S_2 : qv_St) =>
      qv_b (qv_si S_2 0 57 ((S_2.1 0 57) + 1)) fun S_3 =>
      (fX12_keepsRow S_3).bind fun S_4 =>
      some S_4) fun K_2 =>
    qv_lp2 qv_N (fun self_1 (S_5 : qv_St) (x1_1 : Int32) =>
      if 32 ≤ x1_1 then
        K_2 S_5
      else
        qv_ck x1_1 32 <|
        qv_ck ((32 * (S_5.1 0 57)) + x1_1) 1280 <| qv_b (qv_si S_5 39 (Int32.toNatClampNeg ((32 * (S_5.1 0 57)) + x1_1)) (S_5.1 36 (Int32.toNatClampNeg x1_1))) fun S_6 =>
        self_1 S_6 (x1_1 + 1)) S_1 0) fun K_1 =>
  if (S0.1 0 57) = 40 then
    qv_j (fun (S_7 : qv_St) =>
      qv_b (qv_si S_7 0 57 ((S_7.1 0 57) - 1)) fun S_8 =>
      K_1 S_8) fun K_3 =>
    qv_lp2 qv_N (fun self_2 (S_9 : qv_St) (x1_2 : Int32) =>
      if 1248 ≤ x1_2 then
        K_3 S_9
      else
        qv_ck (x1_2 + 32) 1280 <|
        qv_ck x1_2 1280 <| qv_b (qv_si S_9 39 (Int32.toNatClampNeg x1_2) (S_9.1 39 (Int32.toNatClampNeg (x1_2 + 32)))) fun S_10 =>
        self_2 S_10 (x1_2 + 1)) S0 0
  else
    K_1 S0
set_option maxRecDepth 20000 in
set_option maxHeartbeats 4000000 in
theorem wX12_keeps (G : qv_GT) (S0 : qv_St) : ∀ r, fX12_keeps S0 = some r → Cn G Lm yX12_keeps cX12_keeps 2 none 2 [.ref (G.2.2.1 0)] S0 (qe_u r) := by
  refine cn_of (own := RX12) (emb := qe_u) (lv := [(0, .ref (G.2.2.1 0))]) rfl rfl (Nat.le_of_ble_eq_true rfl) rfl (fun X => ?_)
  unfold fX12_keeps
  refine qr_aload_n (n := 1) 0 (dkX12_keeps (i := 0) rfl) rfl rfl ?_
  refine qr_geti (n := 4) 0 57 (dkX12_keeps (i := 1) rfl) rfl lmO rfl gnX12 (Nat.le_of_ble_eq_true rfl) kfX12_260 rfl ?_
  refine qr_bipush (n := 6) 40 (dkX12_keeps (i := 2) rfl) rfl (by decide) ?_
  refine qr_j (fun K_1 : qv_St → Option qv_St => ∀ (S_1 : qv_St), VV G Lm X RX12 cX12_keeps 2 none 2 qe_u 49 [(0, .ref (G.2.2.1 0))] [] S_1 (K_1 S_1)) (fun S_1 => ?_) (fun K_1 hK_1 => ?_)
  · refine qr_iconst (n := 50) 0 (dkX12_keeps (i := 27) rfl) rfl (by decide) ?_
    refine qr_istore_n (n := 51) (lv2 := [(0, .ref (G.2.2.1 0)), (1, .int 0)]) [1, 0] (dkX12_keeps (i := 28) rfl) rfl rfl (by decide) rfl ?_
    refine qr_j (fun K_2 : qv_St → Option qv_St => ∀ (S_2 : qv_St), VV G Lm X RX12 cX12_keeps 2 none 2 qe_u 83 [(0, .ref (G.2.2.1 0))] [] S_2 (K_2 S_2)) (fun S_2 => ?_) (fun K_2 hK_2 => ?_)
    · refine qr_aload_n (n := 84) 0 (dkX12_keeps (i := 47) rfl) rfl rfl ?_
      refine qr_dup (n := 85) (dkX12_keeps (i := 48) rfl) rfl rfl ?_
      refine qr_geti (n := 88) 0 57 (dkX12_keeps (i := 49) rfl) rfl lmO rfl gnX12 (Nat.le_of_ble_eq_true rfl) kfX12_260 rfl ?_
      refine qr_iconst (n := 89) 1 (dkX12_keeps (i := 50) rfl) rfl (by decide) ?_
      refine qr_iadd (n := 90) (dkX12_keeps (i := 51) rfl) rfl ?_
      refine qr_puti (n := 93) 0 57 (dkX12_keeps (i := 52) rfl) rfl lmO rfl gnX12 (Nat.le_of_ble_eq_true rfl) kfX12_260 rfl tyX12_ok nmX12 rfl rfl (fun S_3 => ?_)
      refine qr_aload_n (n := 94) 0 (dkX12_keeps (i := 53) rfl) rfl rfl ?_
      refine qr_cvu (n := 97) 0 [] (dkX12_keeps (i := 54) rfl) rfl kvX12_172 rfl rfl (Nat.le_of_ble_eq_true rfl) rfl rfl lmO rfl (wX12_keepsRow G S_3) (fun S_4 => ?_)
      exact qr_vret (dkX12_keeps (i := 55) rfl) rfl rfl
    · refine qr_lp2 (fun (S_5 : qv_St) (x1_1 : Int32) => [(0, .ref (G.2.2.1 0)), (1, .int x1_1)]) (fun (S_5 : qv_St) (x1_1 : Int32) => S_5) (fun self_1 hself_1 S_5 x1_1 => ?_) qv_N S_1 0
      refine qr_iload_n (n := 52) 1 (dkX12_keeps (i := 29) rfl) rfl rfl ?_
      refine qr_bipush (n := 54) 32 (dkX12_keeps (i := 30) rfl) rfl (by decide) ?_
      refine qr_icmp_ge (t := 83) (n := 57) (dkX12_keeps (i := 31) rfl) (by decide) rfl ?_ ?_
      · refine qr_sub [0] rfl ?_
        exact hK_2 S_5
      · refine qr_aload_n (n := 58) 0 (dkX12_keeps (i := 32) rfl) rfl rfl ?_
        refine qr_geta (n := 61) 0 58 39 (dkX12_keeps (i := 33) rfl) rfl lmO rfl gnX12 (Nat.le_of_ble_eq_true rfl) kfX12_134 rfl ?_
        refine qr_bipush (n := 63) 32 (dkX12_keeps (i := 34) rfl) rfl (by decide) ?_
        refine qr_aload_n (n := 64) 0 (dkX12_keeps (i := 35) rfl) rfl rfl ?_
        refine qr_geti (n := 67) 0 57 (dkX12_keeps (i := 36) rfl) rfl lmO rfl gnX12 (Nat.le_of_ble_eq_true rfl) kfX12_260 rfl ?_
        refine qr_imul (n := 68) (dkX12_keeps (i := 37) rfl) rfl ?_
        refine qr_iload_n (n := 69) 1 (dkX12_keeps (i := 38) rfl) rfl rfl ?_
        refine qr_iadd (n := 70) (dkX12_keeps (i := 39) rfl) rfl ?_
        refine qr_aload_n (n := 71) 0 (dkX12_keeps (i := 40) rfl) rfl rfl ?_
        refine qr_geta (n := 74) 0 53 36 (dkX12_keeps (i := 41) rfl) rfl lmO rfl gnX12 (Nat.le_of_ble_eq_true rfl) kfX12_125 rfl ?_
        refine qr_iload_n (n := 75) 1 (dkX12_keeps (i := 42) rfl) rfl rfl ?_
        refine qr_iald (n := 76) 36 32 (dkX12_keeps (i := 43) rfl) rfl lmA_36 ?_
        refine qr_iast (n := 77) 39 1280 (dkX12_keeps (i := 44) rfl) rfl lmA_39 (fun S_6 => ?_)
        refine qr_iinc (n := 80) (v := 1) (lv2 := [(0, .ref (G.2.2.1 0)), (1, .int (x1_1 + 1))]) 1 [1, 0] (dkX12_keeps (i := 45) rfl) rfl rfl (by decide) (by decide) rfl ?_
        refine qr_goto (n := 51) (dkX12_keeps (i := 46) rfl) (by decide) ?_
        exact hself_1 S_6 (x1_1 + 1)
  · refine qr_icmp_ne (t := 49) (n := 9) (dkX12_keeps (i := 3) rfl) (by decide) rfl ?_ ?_
    · exact hK_1 S0
    · refine qr_iconst (n := 10) 0 (dkX12_keeps (i := 4) rfl) rfl (by decide) ?_
      refine qr_istore_n (n := 11) (lv2 := [(0, .ref (G.2.2.1 0)), (1, .int 0)]) [1, 0] (dkX12_keeps (i := 5) rfl) rfl rfl (by decide) rfl ?_
      refine qr_j (fun K_3 : qv_St → Option qv_St => ∀ (S_7 : qv_St), VV G Lm X RX12 cX12_keeps 2 none 2 qe_u 39 [(0, .ref (G.2.2.1 0))] [] S_7 (K_3 S_7)) (fun S_7 => ?_) (fun K_3 hK_3 => ?_)
      · refine qr_aload_n (n := 40) 0 (dkX12_keeps (i := 21) rfl) rfl rfl ?_
        refine qr_dup (n := 41) (dkX12_keeps (i := 22) rfl) rfl rfl ?_
        refine qr_geti (n := 44) 0 57 (dkX12_keeps (i := 23) rfl) rfl lmO rfl gnX12 (Nat.le_of_ble_eq_true rfl) kfX12_260 rfl ?_
        refine qr_iconst (n := 45) 1 (dkX12_keeps (i := 24) rfl) rfl (by decide) ?_
        refine qr_isub (n := 46) (dkX12_keeps (i := 25) rfl) rfl ?_
        refine qr_puti (n := 49) 0 57 (dkX12_keeps (i := 26) rfl) rfl lmO rfl gnX12 (Nat.le_of_ble_eq_true rfl) kfX12_260 rfl tyX12_ok nmX12 rfl rfl (fun S_8 => ?_)
        exact hK_1 S_8
      · refine qr_lp2 (fun (S_9 : qv_St) (x1_2 : Int32) => [(0, .ref (G.2.2.1 0)), (1, .int x1_2)]) (fun (S_9 : qv_St) (x1_2 : Int32) => S_9) (fun self_2 hself_2 S_9 x1_2 => ?_) qv_N S0 0
        refine qr_iload_n (n := 12) 1 (dkX12_keeps (i := 6) rfl) rfl rfl ?_
        refine qr_sipush (n := 15) 1248 (dkX12_keeps (i := 7) rfl) rfl (by decide) ?_
        refine qr_icmp_ge (t := 39) (n := 18) (dkX12_keeps (i := 8) rfl) (by decide) rfl ?_ ?_
        · refine qr_sub [0] rfl ?_
          exact hK_3 S_9
        · refine qr_aload_n (n := 19) 0 (dkX12_keeps (i := 9) rfl) rfl rfl ?_
          refine qr_geta (n := 22) 0 58 39 (dkX12_keeps (i := 10) rfl) rfl lmO rfl gnX12 (Nat.le_of_ble_eq_true rfl) kfX12_134 rfl ?_
          refine qr_iload_n (n := 23) 1 (dkX12_keeps (i := 11) rfl) rfl rfl ?_
          refine qr_aload_n (n := 24) 0 (dkX12_keeps (i := 12) rfl) rfl rfl ?_
          refine qr_geta (n := 27) 0 58 39 (dkX12_keeps (i := 13) rfl) rfl lmO rfl gnX12 (Nat.le_of_ble_eq_true rfl) kfX12_134 rfl ?_
          refine qr_iload_n (n := 28) 1 (dkX12_keeps (i := 14) rfl) rfl rfl ?_
          refine qr_bipush (n := 30) 32 (dkX12_keeps (i := 15) rfl) rfl (by decide) ?_
          refine qr_iadd (n := 31) (dkX12_keeps (i := 16) rfl) rfl ?_
          refine qr_iald (n := 32) 39 1280 (dkX12_keeps (i := 17) rfl) rfl lmA_39 ?_
          refine qr_iast (n := 33) 39 1280 (dkX12_keeps (i := 18) rfl) rfl lmA_39 (fun S_10 => ?_)
          refine qr_iinc (n := 36) (v := 1) (lv2 := [(0, .ref (G.2.2.1 0)), (1, .int (x1_2 + 1))]) 1 [1, 0] (dkX12_keeps (i := 19) rfl) rfl rfl (by decide) (by decide) rfl ?_
          refine qr_goto (n := 11) (dkX12_keeps (i := 20) rfl) (by decide) ?_
          exact hself_2 S_10 (x1_2 + 1)
def tbX12_stands : List (Nat × Instr × Nat) := [(0, .aload_n 0, 1), (1, .getfield 128, 3), (4, .iconst 0, 1), (5, .dup2, 1), (6, .iaload, 1), (7, .iload_n 1, 1), (8, .iadd, 1), (9, .iastore, 1), (10, .aload_n 0, 1), (11, .getfield 128, 3), (14, .iconst 2, 1), (15, .dup2, 1), (16, .iaload, 1), (17, .iload_n 1, 1), (18, .iadd, 1), (19, .iastore, 1), (20, .return_, 1)]
set_option maxRecDepth 20000 in
theorem daX12_stands : ∀ x ∈ tbX12_stands, decode cX12_stands x.1 = .ok x.2 := by decide +kernel
theorem dkX12_stands {i pc n : Nat} {ins : Instr} (h : tbX12_stands[i]? = some (pc, ins, n)) : decode cX12_stands pc = .ok (ins, n) := daX12_stands (pc, ins, n) (List.mem_of_getElem? h)
def fX12_stands (S0 : qv_St) (x1 : Int32) : Option qv_St :=
  qv_ck 0 32 <|
  qv_ck 0 32 <| qv_b (qv_si S0 37 (Int32.toNatClampNeg 0) ((S0.1 37 (Int32.toNatClampNeg 0)) + x1)) fun S_1 =>
  qv_ck 2 32 <|
  qv_ck 2 32 <| qv_b (qv_si S_1 37 (Int32.toNatClampNeg 2) ((S_1.1 37 (Int32.toNatClampNeg 2)) + x1)) fun S_2 =>
  some S_2
set_option maxRecDepth 20000 in
set_option maxHeartbeats 4000000 in
theorem wX12_stands (G : qv_GT) (S0 : qv_St) (x1 : Int32) : ∀ r, fX12_stands S0 x1 = some r → Cn G Lm yX12_stands cX12_stands 2 none 1 [.ref (G.2.2.1 0), .int x1] S0 (qe_u r) := by
  refine cn_of (own := RX12) (emb := qe_u) (lv := [(0, .ref (G.2.2.1 0)), (1, .int x1)]) rfl rfl (Nat.le_of_ble_eq_true rfl) rfl (fun X => ?_)
  unfold fX12_stands
  refine qr_aload_n (n := 1) 0 (dkX12_stands (i := 0) rfl) rfl rfl ?_
  refine qr_geta (n := 4) 0 54 37 (dkX12_stands (i := 1) rfl) rfl lmO rfl gnX12 (Nat.le_of_ble_eq_true rfl) kfX12_128 rfl ?_
  refine qr_iconst (n := 5) 0 (dkX12_stands (i := 2) rfl) rfl (by decide) ?_
  refine qr_dup2 (n := 6) (dkX12_stands (i := 3) rfl) rfl rfl rfl ?_
  refine qr_iald (n := 7) 37 32 (dkX12_stands (i := 4) rfl) rfl lmA_37 ?_
  refine qr_iload_n (n := 8) 1 (dkX12_stands (i := 5) rfl) rfl rfl ?_
  refine qr_iadd (n := 9) (dkX12_stands (i := 6) rfl) rfl ?_
  refine qr_iast (n := 10) 37 32 (dkX12_stands (i := 7) rfl) rfl lmA_37 (fun S_1 => ?_)
  refine qr_aload_n (n := 11) 0 (dkX12_stands (i := 8) rfl) rfl rfl ?_
  refine qr_geta (n := 14) 0 54 37 (dkX12_stands (i := 9) rfl) rfl lmO rfl gnX12 (Nat.le_of_ble_eq_true rfl) kfX12_128 rfl ?_
  refine qr_iconst (n := 15) 2 (dkX12_stands (i := 10) rfl) rfl (by decide) ?_
  refine qr_dup2 (n := 16) (dkX12_stands (i := 11) rfl) rfl rfl rfl ?_
  refine qr_iald (n := 17) 37 32 (dkX12_stands (i := 12) rfl) rfl lmA_37 ?_
  refine qr_iload_n (n := 18) 1 (dkX12_stands (i := 13) rfl) rfl rfl ?_
  refine qr_iadd (n := 19) (dkX12_stands (i := 14) rfl) rfl ?_
  refine qr_iast (n := 20) 37 32 (dkX12_stands (i := 15) rfl) rfl lmA_37 (fun S_2 => ?_)
  exact qr_vret (dkX12_stands (i := 16) rfl) rfl rfl
def tbX12_take : List (Nat × Instr × Nat) := [(0, .aload_n 0, 1), (1, .iload_n 1, 1), (2, .invokevirtual 390, 3), (5, .ifCond .ne 5, 3), (8, .iconst (-1), 1), (9, .ireturn, 1), (10, .aload_n 0, 1), (11, .getfield 65, 3), (14, .aload_n 0, 1), (15, .getfield 242, 3), (18, .iaload, 1), (19, .ifCond .ne 6, 3), (22, .bipush (-2), 2), (24, .ireturn, 1), (25, .aload_n 0, 1), (26, .invokevirtual 384, 3), (29, .aload_n 0, 1), (30, .aload_n 0, 1), (31, .getfield 128, 3), (34, .iconst 1, 1), (35, .iaload, 1), (36, .aload_n 0, 1), (37, .iload_n 1, 1), (38, .invokevirtual 368, 3), (41, .invokevirtual 396, 3), (44, .aload_n 0, 1), (45, .iload_n 1, 1), (46, .iconst 0, 1), (47, .invokevirtual 374, 3), (50, .istore_n 2, 1), (51, .aload_n 0, 1), (52, .getfield 128, 3), (55, .bipush 12, 2), (57, .iload_n 1, 1), (58, .iadd, 1), (59, .dup2, 1), (60, .iaload, 1), (61, .iload_n 2, 1), (62, .ior, 1), (63, .iastore, 1), (64, .aload_n 0, 1), (65, .getfield 128, 3), (68, .bipush 18, 2), (70, .iload_n 1, 1), (71, .iadd, 1), (72, .dup2, 1), (73, .iaload, 1), (74, .iconst 1, 1), (75, .iadd, 1), (76, .iastore, 1), (77, .aload_n 0, 1), (78, .iload_n 1, 1), (79, .iload_n 2, 1), (80, .invokevirtual 377, 3), (83, .ifCond .eq 16, 3), (86, .aload_n 0, 1), (87, .getfield 128, 3), (90, .bipush 24, 2), (92, .iload_n 1, 1), (93, .iadd, 1), (94, .dup2, 1), (95, .iaload, 1), (96, .iconst 1, 1), (97, .iadd, 1), (98, .iastore, 1), (99, .aload_n 0, 1), (100, .aload_n 0, 1), (101, .iload_n 1, 1), (102, .invokevirtual 368, 3), (105, .invokevirtual 399, 3), (108, .aload_n 0, 1), (109, .invokevirtual 402, 3), (112, .iload_n 2, 1), (113, .ireturn, 1)]
set_option maxRecDepth 20000 in
theorem daX12_take : ∀ x ∈ tbX12_take, decode cX12_take x.1 = .ok x.2 := by decide +kernel
theorem dkX12_take {i pc n : Nat} {ins : Instr} (h : tbX12_take[i]? = some (pc, ins, n)) : decode cX12_take pc = .ok (ins, n) := daX12_take (pc, ins, n) (List.mem_of_getElem? h)
def fX12_take (S0 : qv_St) (x1 : Int32) : Option (qv_St × Int32) :=
  (fX12_isShot S0 x1).bind fun r_1 =>
  if r_1 = 0 then
    some (S0, (-1))
  else
    qv_ck (S0.1 0 18) 2 <|
    if (S0.1 16 (Int32.toNatClampNeg (S0.1 0 18))) = 0 then
      some (S0, (-2))
    else
      (fX12_copies S0).bind fun S_1 =>
      qv_ck 1 32 <|
      (fX12_longFor S_1 x1).bind fun r_2 =>
      (fX12_fillsLoud S_1 (S_1.1 37 (Int32.toNatClampNeg 1)) r_2).bind fun S_2 =>
      qv_cm (fX12_clearFrom S_2 x1 0) fun S_3 r_3 =>
      qv_ck (12 + x1) 32 <|
      qv_ck (12 + x1) 32 <| qv_b (qv_si S_3 37 (Int32.toNatClampNeg (12 + x1)) ((S_3.1 37 (Int32.toNatClampNeg (12 + x1))) ||| r_3)) fun S_4 =>
      qv_ck (18 + x1) 32 <|
      qv_ck (18 + x1) 32 <| qv_b (qv_si S_4 37 (Int32.toNatClampNeg (18 + x1)) ((S_4.1 37 (Int32.toNatClampNeg (18 + x1))) + 1)) fun S_5 =>
      (fX12_isWhole S_5 x1 r_3).bind fun r_4 =>
      qv_j (fun (S_6 : qv_St) =>
        (fX12_longFor S_6 x1).bind fun r_5 =>
        (fX12_stands S_6 r_5).bind fun S_7 =>
        (fX12_keeps S_7).bind fun S_8 =>
        some (S_8, r_3)) fun K_1 =>
      if r_4 = 0 then
        K_1 S_5
      else
        qv_ck (24 + x1) 32 <|
        qv_ck (24 + x1) 32 <| qv_b (qv_si S_5 37 (Int32.toNatClampNeg (24 + x1)) ((S_5.1 37 (Int32.toNatClampNeg (24 + x1))) + 1)) fun S_9 =>
        K_1 S_9
set_option maxRecDepth 20000 in
set_option maxHeartbeats 4000000 in
theorem wX12_take (G : qv_GT) (S0 : qv_St) (x1 : Int32) : ∀ r, fX12_take S0 x1 = some r → Cn G Lm yX12_take cX12_take 3 (some .int) 10 [.ref (G.2.2.1 0), .int x1] S0 (qe_m r) := by
  refine cn_of (own := RX12) (emb := qe_m) (lv := [(0, .ref (G.2.2.1 0)), (1, .int x1)]) rfl rfl (Nat.le_of_ble_eq_true rfl) rfl (fun X => ?_)
  unfold fX12_take
  refine qr_aload_n (n := 1) 0 (dkX12_take (i := 0) rfl) rfl rfl ?_
  refine qr_iload_n (n := 2) 1 (dkX12_take (i := 1) rfl) rfl rfl ?_
  refine qr_cvi (n := 5) 0 [.int x1] (dkX12_take (i := 2) rfl) rfl kvX12_390 rfl rfl (Nat.le_of_ble_eq_true rfl) rfl rfl lmO rfl (wX12_isShot G S0 x1) (fun r_1 => ?_)
  refine qr_if_ne (t := 10) (n := 8) (dkX12_take (i := 3) rfl) (by decide) rfl ?_ ?_
  · refine qr_aload_n (n := 11) 0 (dkX12_take (i := 6) rfl) rfl rfl ?_
    refine qr_geta (n := 14) 0 29 16 (dkX12_take (i := 7) rfl) rfl lmO rfl gnX12 (Nat.le_of_ble_eq_true rfl) kfX12_65 rfl ?_
    refine qr_aload_n (n := 15) 0 (dkX12_take (i := 8) rfl) rfl rfl ?_
    refine qr_geti (n := 18) 0 18 (dkX12_take (i := 9) rfl) rfl lmO rfl gnX12 (Nat.le_of_ble_eq_true rfl) kfX12_242 rfl ?_
    refine qr_iald (n := 19) 16 2 (dkX12_take (i := 10) rfl) rfl lmA_16 ?_
    refine qr_if_ne (t := 25) (n := 22) (dkX12_take (i := 11) rfl) (by decide) rfl ?_ ?_
    · refine qr_aload_n (n := 26) 0 (dkX12_take (i := 14) rfl) rfl rfl ?_
      refine qr_cvu (n := 29) 0 [] (dkX12_take (i := 15) rfl) rfl kvX12_384 rfl rfl (Nat.le_of_ble_eq_true rfl) rfl rfl lmO rfl (wX12_copies G S0) (fun S_1 => ?_)
      refine qr_aload_n (n := 30) 0 (dkX12_take (i := 16) rfl) rfl rfl ?_
      refine qr_aload_n (n := 31) 0 (dkX12_take (i := 17) rfl) rfl rfl ?_
      refine qr_geta (n := 34) 0 54 37 (dkX12_take (i := 18) rfl) rfl lmO rfl gnX12 (Nat.le_of_ble_eq_true rfl) kfX12_128 rfl ?_
      refine qr_iconst (n := 35) 1 (dkX12_take (i := 19) rfl) rfl (by decide) ?_
      refine qr_iald (n := 36) 37 32 (dkX12_take (i := 20) rfl) rfl lmA_37 ?_
      refine qr_aload_n (n := 37) 0 (dkX12_take (i := 21) rfl) rfl rfl ?_
      refine qr_iload_n (n := 38) 1 (dkX12_take (i := 22) rfl) rfl rfl ?_
      refine qr_cvi (n := 41) 0 [.int x1] (dkX12_take (i := 23) rfl) rfl kvX12_368 rfl rfl (Nat.le_of_ble_eq_true rfl) rfl rfl lmO rfl (wX12_longFor G S_1 x1) (fun r_2 => ?_)
      refine qr_cvu (n := 44) 0 [.int (S_1.1 37 (Int32.toNatClampNeg 1)), .int r_2] (dkX12_take (i := 24) rfl) rfl kvX12_396 rfl rfl (Nat.le_of_ble_eq_true rfl) rfl rfl lmO rfl (wX12_fillsLoud G S_1 (S_1.1 37 (Int32.toNatClampNeg 1)) r_2) (fun S_2 => ?_)
      refine qr_aload_n (n := 45) 0 (dkX12_take (i := 25) rfl) rfl rfl ?_
      refine qr_iload_n (n := 46) 1 (dkX12_take (i := 26) rfl) rfl rfl ?_
      refine qr_iconst (n := 47) 0 (dkX12_take (i := 27) rfl) rfl (by decide) ?_
      refine qr_cvm (n := 50) 0 [.int x1, .int 0] (dkX12_take (i := 28) rfl) rfl kvX12_374 rfl rfl (Nat.le_of_ble_eq_true rfl) rfl rfl lmO rfl (wX12_clearFrom G S_2 x1 0) (fun S_3 r_3 => ?_)
      refine qr_istore_n (n := 51) (lv2 := [(0, .ref (G.2.2.1 0)), (1, .int x1), (2, .int r_3)]) [1, 2, 0] (dkX12_take (i := 29) rfl) rfl rfl (by decide) rfl ?_
      refine qr_aload_n (n := 52) 0 (dkX12_take (i := 30) rfl) rfl rfl ?_
      refine qr_geta (n := 55) 0 54 37 (dkX12_take (i := 31) rfl) rfl lmO rfl gnX12 (Nat.le_of_ble_eq_true rfl) kfX12_128 rfl ?_
      refine qr_bipush (n := 57) 12 (dkX12_take (i := 32) rfl) rfl (by decide) ?_
      refine qr_iload_n (n := 58) 1 (dkX12_take (i := 33) rfl) rfl rfl ?_
      refine qr_iadd (n := 59) (dkX12_take (i := 34) rfl) rfl ?_
      refine qr_dup2 (n := 60) (dkX12_take (i := 35) rfl) rfl rfl rfl ?_
      refine qr_iald (n := 61) 37 32 (dkX12_take (i := 36) rfl) rfl lmA_37 ?_
      refine qr_iload_n (n := 62) 2 (dkX12_take (i := 37) rfl) rfl rfl ?_
      refine qr_ior (n := 63) (dkX12_take (i := 38) rfl) rfl ?_
      refine qr_iast (n := 64) 37 32 (dkX12_take (i := 39) rfl) rfl lmA_37 (fun S_4 => ?_)
      refine qr_aload_n (n := 65) 0 (dkX12_take (i := 40) rfl) rfl rfl ?_
      refine qr_geta (n := 68) 0 54 37 (dkX12_take (i := 41) rfl) rfl lmO rfl gnX12 (Nat.le_of_ble_eq_true rfl) kfX12_128 rfl ?_
      refine qr_bipush (n := 70) 18 (dkX12_take (i := 42) rfl) rfl (by decide) ?_
      refine qr_iload_n (n := 71) 1 (dkX12_take (i := 43) rfl) rfl rfl ?_
      refine qr_iadd (n := 72) (dkX12_take (i := 44) rfl) rfl ?_
      refine qr_dup2 (n := 73) (dkX12_take (i := 45) rfl) rfl rfl rfl ?_
      refine qr_iald (n := 74) 37 32 (dkX12_take (i := 46) rfl) rfl lmA_37 ?_
      refine qr_iconst (n := 75) 1 (dkX12_take (i := 47) rfl) rfl (by decide) ?_
      refine qr_iadd (n := 76) (dkX12_take (i := 48) rfl) rfl ?_
      refine qr_iast (n := 77) 37 32 (dkX12_take (i := 49) rfl) rfl lmA_37 (fun S_5 => ?_)
      refine qr_aload_n (n := 78) 0 (dkX12_take (i := 50) rfl) rfl rfl ?_
      refine qr_iload_n (n := 79) 1 (dkX12_take (i := 51) rfl) rfl rfl ?_
      refine qr_iload_n (n := 80) 2 (dkX12_take (i := 52) rfl) rfl rfl ?_
      refine qr_cvi (n := 83) 0 [.int x1, .int r_3] (dkX12_take (i := 53) rfl) rfl kvX12_377 rfl rfl (Nat.le_of_ble_eq_true rfl) rfl rfl lmO rfl (wX12_isWhole G S_5 x1 r_3) (fun r_4 => ?_)
      refine qr_j (fun K_1 : qv_St → Option (qv_St × Int32) => ∀ (S_6 : qv_St), VV G Lm X RX12 cX12_take 3 (some .int) 10 qe_m 99 [(0, .ref (G.2.2.1 0)), (1, .int x1), (2, .int r_3)] [] S_6 (K_1 S_6)) (fun S_6 => ?_) (fun K_1 hK_1 => ?_)
      · refine qr_aload_n (n := 100) 0 (dkX12_take (i := 65) rfl) rfl rfl ?_
        refine qr_aload_n (n := 101) 0 (dkX12_take (i := 66) rfl) rfl rfl ?_
        refine qr_iload_n (n := 102) 1 (dkX12_take (i := 67) rfl) rfl rfl ?_
        refine qr_cvi (n := 105) 0 [.int x1] (dkX12_take (i := 68) rfl) rfl kvX12_368 rfl rfl (Nat.le_of_ble_eq_true rfl) rfl rfl lmO rfl (wX12_longFor G S_6 x1) (fun r_5 => ?_)
        refine qr_cvu (n := 108) 0 [.int r_5] (dkX12_take (i := 69) rfl) rfl kvX12_399 rfl rfl (Nat.le_of_ble_eq_true rfl) rfl rfl lmO rfl (wX12_stands G S_6 r_5) (fun S_7 => ?_)
        refine qr_aload_n (n := 109) 0 (dkX12_take (i := 70) rfl) rfl rfl ?_
        refine qr_cvu (n := 112) 0 [] (dkX12_take (i := 71) rfl) rfl kvX12_402 rfl rfl (Nat.le_of_ble_eq_true rfl) rfl rfl lmO rfl (wX12_keeps G S_7) (fun S_8 => ?_)
        refine qr_iload_n (n := 113) 2 (dkX12_take (i := 72) rfl) rfl rfl ?_
        exact qr_iret (dkX12_take (i := 73) rfl) rfl rfl
      · refine qr_if_eq (t := 99) (n := 86) (dkX12_take (i := 54) rfl) (by decide) rfl ?_ ?_
        · exact hK_1 S_5
        · refine qr_aload_n (n := 87) 0 (dkX12_take (i := 55) rfl) rfl rfl ?_
          refine qr_geta (n := 90) 0 54 37 (dkX12_take (i := 56) rfl) rfl lmO rfl gnX12 (Nat.le_of_ble_eq_true rfl) kfX12_128 rfl ?_
          refine qr_bipush (n := 92) 24 (dkX12_take (i := 57) rfl) rfl (by decide) ?_
          refine qr_iload_n (n := 93) 1 (dkX12_take (i := 58) rfl) rfl rfl ?_
          refine qr_iadd (n := 94) (dkX12_take (i := 59) rfl) rfl ?_
          refine qr_dup2 (n := 95) (dkX12_take (i := 60) rfl) rfl rfl rfl ?_
          refine qr_iald (n := 96) 37 32 (dkX12_take (i := 61) rfl) rfl lmA_37 ?_
          refine qr_iconst (n := 97) 1 (dkX12_take (i := 62) rfl) rfl (by decide) ?_
          refine qr_iadd (n := 98) (dkX12_take (i := 63) rfl) rfl ?_
          refine qr_iast (n := 99) 37 32 (dkX12_take (i := 64) rfl) rfl lmA_37 (fun S_9 => ?_)
          exact hK_1 S_9
    · refine qr_bipush (n := 24) (-2) (dkX12_take (i := 12) rfl) rfl (by decide) ?_
      exact qr_iret (dkX12_take (i := 13) rfl) rfl rfl
  · refine qr_iconst (n := 9) (-1) (dkX12_take (i := 4) rfl) rfl (by decide) ?_
    exact qr_iret (dkX12_take (i := 5) rfl) rfl rfl
def tbX12_waits : List (Nat × Instr × Nat) := [(0, .iload_n 1, 1), (1, .iconst 0, 1), (2, .sipush 300, 3), (5, .invokestatic 319, 3), (8, .ifCond .ne 5, 3), (11, .iconst (-1), 1), (12, .ireturn, 1), (13, .iload_n 1, 1), (14, .ifCond .ne 10, 3), (17, .aload_n 0, 1), (18, .getfield 125, 3), (21, .iconst 0, 1), (22, .iaload, 1), (23, .ireturn, 1), (24, .aload_n 0, 1), (25, .invokevirtual 384, 3), (28, .aload_n 0, 1), (29, .iload_n 1, 1), (30, .invokevirtual 399, 3), (33, .aload_n 0, 1), (34, .invokevirtual 402, 3), (37, .aload_n 0, 1), (38, .getfield 125, 3), (41, .iconst 0, 1), (42, .iaload, 1), (43, .ireturn, 1)]
set_option maxRecDepth 20000 in
theorem daX12_waits : ∀ x ∈ tbX12_waits, decode cX12_waits x.1 = .ok x.2 := by decide +kernel
theorem dkX12_waits {i pc n : Nat} {ins : Instr} (h : tbX12_waits[i]? = some (pc, ins, n)) : decode cX12_waits pc = .ok (ins, n) := daX12_waits (pc, ins, n) (List.mem_of_getElem? h)
def fX12_waits (S0 : qv_St) (x1 : Int32) : Option (qv_St × Int32) :=
  (fX12_in x1 0 300).bind fun r_1 =>
  if r_1 = 0 then
    some (S0, (-1))
  else
    if x1 = 0 then
      qv_ck 0 32 <|
      some (S0, (S0.1 36 (Int32.toNatClampNeg 0)))
    else
      (fX12_copies S0).bind fun S_1 =>
      (fX12_stands S_1 x1).bind fun S_2 =>
      (fX12_keeps S_2).bind fun S_3 =>
      qv_ck 0 32 <|
      some (S_3, (S_3.1 36 (Int32.toNatClampNeg 0)))
set_option maxRecDepth 20000 in
set_option maxHeartbeats 4000000 in
theorem wX12_waits (G : qv_GT) (S0 : qv_St) (x1 : Int32) : ∀ r, fX12_waits S0 x1 = some r → Cn G Lm yX12_waits cX12_waits 2 (some .int) 3 [.ref (G.2.2.1 0), .int x1] S0 (qe_m r) := by
  refine cn_of (own := RX12) (emb := qe_m) (lv := [(0, .ref (G.2.2.1 0)), (1, .int x1)]) rfl rfl (Nat.le_of_ble_eq_true rfl) rfl (fun X => ?_)
  unfold fX12_waits
  refine qr_iload_n (n := 1) 1 (dkX12_waits (i := 0) rfl) rfl rfl ?_
  refine qr_iconst (n := 2) 0 (dkX12_waits (i := 1) rfl) rfl (by decide) ?_
  refine qr_sipush (n := 5) 300 (dkX12_waits (i := 2) rfl) rfl (by decide) ?_
  refine qr_csi (n := 8) [.int x1, .int 0, .int 300] (dkX12_waits (i := 3) rfl) rfl kvX12_319 rfl rfl (Nat.le_of_ble_eq_true rfl) rfl rfl (wX12_in G S0 x1 0 300) (fun r_1 => ?_)
  refine qr_if_ne (t := 13) (n := 11) (dkX12_waits (i := 4) rfl) (by decide) rfl ?_ ?_
  · refine qr_iload_n (n := 14) 1 (dkX12_waits (i := 7) rfl) rfl rfl ?_
    refine qr_if_ne (t := 24) (n := 17) (dkX12_waits (i := 8) rfl) (by decide) rfl ?_ ?_
    · refine qr_aload_n (n := 25) 0 (dkX12_waits (i := 14) rfl) rfl rfl ?_
      refine qr_cvu (n := 28) 0 [] (dkX12_waits (i := 15) rfl) rfl kvX12_384 rfl rfl (Nat.le_of_ble_eq_true rfl) rfl rfl lmO rfl (wX12_copies G S0) (fun S_1 => ?_)
      refine qr_aload_n (n := 29) 0 (dkX12_waits (i := 16) rfl) rfl rfl ?_
      refine qr_iload_n (n := 30) 1 (dkX12_waits (i := 17) rfl) rfl rfl ?_
      refine qr_cvu (n := 33) 0 [.int x1] (dkX12_waits (i := 18) rfl) rfl kvX12_399 rfl rfl (Nat.le_of_ble_eq_true rfl) rfl rfl lmO rfl (wX12_stands G S_1 x1) (fun S_2 => ?_)
      refine qr_aload_n (n := 34) 0 (dkX12_waits (i := 19) rfl) rfl rfl ?_
      refine qr_cvu (n := 37) 0 [] (dkX12_waits (i := 20) rfl) rfl kvX12_402 rfl rfl (Nat.le_of_ble_eq_true rfl) rfl rfl lmO rfl (wX12_keeps G S_2) (fun S_3 => ?_)
      refine qr_aload_n (n := 38) 0 (dkX12_waits (i := 21) rfl) rfl rfl ?_
      refine qr_geta (n := 41) 0 53 36 (dkX12_waits (i := 22) rfl) rfl lmO rfl gnX12 (Nat.le_of_ble_eq_true rfl) kfX12_125 rfl ?_
      refine qr_iconst (n := 42) 0 (dkX12_waits (i := 23) rfl) rfl (by decide) ?_
      refine qr_iald (n := 43) 36 32 (dkX12_waits (i := 24) rfl) rfl lmA_36 ?_
      exact qr_iret (dkX12_waits (i := 25) rfl) rfl rfl
    · refine qr_aload_n (n := 18) 0 (dkX12_waits (i := 9) rfl) rfl rfl ?_
      refine qr_geta (n := 21) 0 53 36 (dkX12_waits (i := 10) rfl) rfl lmO rfl gnX12 (Nat.le_of_ble_eq_true rfl) kfX12_125 rfl ?_
      refine qr_iconst (n := 22) 0 (dkX12_waits (i := 11) rfl) rfl (by decide) ?_
      refine qr_iald (n := 23) 36 32 (dkX12_waits (i := 12) rfl) rfl lmA_36 ?_
      exact qr_iret (dkX12_waits (i := 13) rfl) rfl rfl
  · refine qr_iconst (n := 12) (-1) (dkX12_waits (i := 5) rfl) rfl (by decide) ?_
    exact qr_iret (dkX12_waits (i := 6) rfl) rfl rfl
