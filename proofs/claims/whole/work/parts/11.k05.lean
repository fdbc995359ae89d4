def tbX11_beginAnew : List (Nat × Instr × Nat) := [(0, .aload_n 0, 1), (1, .getfield 42, 3), (4, .aload_n 0, 1), (5, .getfield 35, 3), (8, .getfield 347, 3), (11, .invokevirtual 348, 3), (14, .aload_n 0, 1), (15, .getfield 49, 3), (18, .iconst 0, 1), (19, .putfield 233, 3), (22, .aload_n 0, 1), (23, .iconst 0, 1), (24, .putfield 332, 3), (27, .aload_n 0, 1), (28, .getfield 89, 3), (31, .invokevirtual 320, 3), (34, .aload_n 0, 1), (35, .getfield 62, 3), (38, .aload_n 0, 1), (39, .getfield 35, 3), (42, .getfield 311, 3), (45, .invokevirtual 314, 3), (48, .aload_n 0, 1), (49, .getfield 71, 3), (52, .invokevirtual 240, 3), (55, .return_, 1)]
set_option maxRecDepth 20000 in
theorem daX11_beginAnew : ∀ x ∈ tbX11_beginAnew, decode cX11_beginAnew x.1 = .ok x.2 := by decide +kernel
theorem dkX11_beginAnew {i pc n : Nat} {ins : Instr} (h : tbX11_beginAnew[i]? = some (pc, ins, n)) : decode cX11_beginAnew pc = .ok (ins, n) := daX11_beginAnew (pc, ins, n) (List.mem_of_getElem? h)
def fX11_beginAnew (S0 : qv_St) : Option qv_St :=
  (fX6_clear S0 31 (S0.1 9 16)).bind fun S_1 =>
  qv_b (qv_si S_1 36 2 0) fun S_2 =>
  qv_b (qv_si S_2 0 7 0) fun S_3 =>
  (fX10_clear S_3).bind fun S_4 =>
  (fX0_tune S_4 (S_4.1 9 17)).bind fun S_5 =>
  (fX7_drop S_5).bind fun S_6 =>
  some S_6
set_option maxRecDepth 20000 in
set_option maxHeartbeats 4000000 in
theorem wX11_beginAnew (G : qv_GT) (S0 : qv_St) : ∀ r, fX11_beginAnew S0 = some r → Cn G Lk yX11_beginAnew cX11_beginAnew 1 none 3 [.ref (G.2.2.1 0)] S0 (qe_u r) := by
  refine cn_of (own := RX11) (emb := qe_u) (lv := [(0, .ref (G.2.2.1 0))]) rfl rfl (Nat.le_of_ble_eq_true rfl) rfl (fun X => ?_)
  unfold fX11_beginAnew
  refine qr_aload_n (n := 1) 0 (dkX11_beginAnew (i := 0) rfl) rfl rfl ?_
  refine qr_geta (n := 4) 0 4 31 (dkX11_beginAnew (i := 1) rfl) rfl lkO_0 rfl gnX11 (Nat.le_of_ble_eq_true rfl) kfX11_42 rfl ?_
  refine qr_aload_n (n := 5) 0 (dkX11_beginAnew (i := 2) rfl) rfl rfl ?_
  refine qr_geta (n := 8) 0 3 9 (dkX11_beginAnew (i := 3) rfl) rfl lkO_0 rfl gnX11 (Nat.le_of_ble_eq_true rfl) kfX11_35 rfl ?_
  refine qr_geti (n := 11) 9 16 (dkX11_beginAnew (i := 4) rfl) rfl lkO_9 rfl gnX5 (Nat.le_of_ble_eq_true rfl) kfX11_347 rfl ?_
  refine qr_cvu (n := 14) 31 [.int (S0.1 9 16)] (dkX11_beginAnew (i := 5) rfl) rfl kvX11_348 rfl rfl (Nat.le_of_ble_eq_true rfl) rfl rfl lkO_31 rfl (wX6_clear G S0 31 (S0.1 9 16) isS_31) (fun S_1 => ?_)
  refine qr_aload_n (n := 15) 0 (dkX11_beginAnew (i := 6) rfl) rfl rfl ?_
  refine qr_geta (n := 18) 0 5 36 (dkX11_beginAnew (i := 7) rfl) rfl lkO_0 rfl gnX11 (Nat.le_of_ble_eq_true rfl) kfX11_49 rfl ?_
  refine qr_iconst (n := 19) 0 (dkX11_beginAnew (i := 8) rfl) rfl (by decide) ?_
  refine qr_puti (n := 22) 36 2 (dkX11_beginAnew (i := 9) rfl) rfl lkO_36 rfl gnX1 (Nat.le_of_ble_eq_true rfl) kfX11_233 rfl tyX1_ok nmX1 rfl rfl (fun S_2 => ?_)
  refine qr_aload_n (n := 23) 0 (dkX11_beginAnew (i := 10) rfl) rfl rfl ?_
  refine qr_iconst (n := 24) 0 (dkX11_beginAnew (i := 11) rfl) rfl (by decide) ?_
  refine qr_puti (n := 27) 0 7 (dkX11_beginAnew (i := 12) rfl) rfl lkO_0 rfl gnX11 (Nat.le_of_ble_eq_true rfl) kfX11_332 rfl tyX11_ok nmX11 rfl rfl (fun S_3 => ?_)
  refine qr_aload_n (n := 28) 0 (dkX11_beginAnew (i := 13) rfl) rfl rfl ?_
  refine qr_geta (n := 31) 0 11 268 (dkX11_beginAnew (i := 14) rfl) rfl lkO_0 rfl gnX11 (Nat.le_of_ble_eq_true rfl) kfX11_89 rfl ?_
  refine qr_cvu (n := 34) 268 [] (dkX11_beginAnew (i := 15) rfl) rfl kvX11_320 rfl rfl (Nat.le_of_ble_eq_true rfl) rfl rfl lkO_268 rfl (wX10_clear G S_3) (fun S_4 => ?_)
  refine qr_aload_n (n := 35) 0 (dkX11_beginAnew (i := 16) rfl) rfl rfl ?_
  refine qr_geta (n := 38) 0 8 254 (dkX11_beginAnew (i := 17) rfl) rfl lkO_0 rfl gnX11 (Nat.le_of_ble_eq_true rfl) kfX11_62 rfl ?_
  refine qr_aload_n (n := 39) 0 (dkX11_beginAnew (i := 18) rfl) rfl rfl ?_
  refine qr_geta (n := 42) 0 3 9 (dkX11_beginAnew (i := 19) rfl) rfl lkO_0 rfl gnX11 (Nat.le_of_ble_eq_true rfl) kfX11_35 rfl ?_
  refine qr_geti (n := 45) 9 17 (dkX11_beginAnew (i := 20) rfl) rfl lkO_9 rfl gnX5 (Nat.le_of_ble_eq_true rfl) kfX11_311 rfl ?_
  refine qr_cvu (n := 48) 254 [.int (S_4.1 9 17)] (dkX11_beginAnew (i := 21) rfl) rfl kvX11_314 rfl rfl (Nat.le_of_ble_eq_true rfl) rfl rfl lkO_254 rfl (wX0_tune G S_4 (S_4.1 9 17)) (fun S_5 => ?_)
  refine qr_aload_n (n := 49) 0 (dkX11_beginAnew (i := 22) rfl) rfl rfl ?_
  refine qr_geta (n := 52) 0 9 260 (dkX11_beginAnew (i := 23) rfl) rfl lkO_0 rfl gnX11 (Nat.le_of_ble_eq_true rfl) kfX11_71 rfl ?_
  refine qr_cvu (n := 55) 260 [] (dkX11_beginAnew (i := 24) rfl) rfl kvX11_240 rfl rfl (Nat.le_of_ble_eq_true rfl) rfl rfl lkO_260 rfl (wX7_drop G S_5) (fun S_6 => ?_)
  exact qr_vret (dkX11_beginAnew (i := 25) rfl) rfl rfl
def tbX11_read : List (Nat × Instr × Nat) := [(0, .aload_n 0, 1), (1, .getfield 19, 3), (4, .aload_n 0, 1), (5, .getfield 10, 3), (8, .invokevirtual 104, 3), (11, .aload_n 0, 1), (12, .getfield 10, 3), (15, .iconst 0, 1), (16, .putfield 96, 3), (19, .aload_n 0, 1), (20, .getfield 28, 3), (23, .invokevirtual 108, 3), (26, .aload_n 0, 1), (27, .getfield 28, 3), (30, .getfield 111, 3), (33, .ifCond .ne 18, 3), (36, .aload_n 0, 1), (37, .getfield 35, 3), (40, .aload_n 0, 1), (41, .getfield 19, 3), (44, .invokevirtual 114, 3), (47, .aload_n 0, 1), (48, .invokevirtual 93, 3), (51, .aload_n 0, 1), (52, .getfield 28, 3), (55, .getfield 111, 3), (58, .ireturn, 1)]
set_option maxRecDepth 20000 in
theorem daX11_read : ∀ x ∈ tbX11_read, decode cX11_read x.1 = .ok x.2 := by decide +kernel
theorem dkX11_read {i pc n : Nat} {ins : Instr} (h : tbX11_read[i]? = some (pc, ins, n)) : decode cX11_read pc = .ok (ins, n) := daX11_read (pc, ins, n) (List.mem_of_getElem? h)
def fX11_read (S0 : qv_St) : Option (qv_St × Int32) :=
  (fX9_cut S0).bind fun S_1 =>
  qv_b (qv_si S_1 1 1 0) fun S_2 =>
  (fX4_check S_2).bind fun S_3 =>
  if (S_3.1 7 8) = 0 then
    (fX5_learn S_3).bind fun S_4 =>
    (fX11_beginAnew S_4).bind fun S_5 =>
    some (S_5, (S_5.1 7 8))
  else
    some (S_3, (S_3.1 7 8))
set_option maxRecDepth 20000 in
set_option maxHeartbeats 4000000 in
theorem wX11_read (G : qv_GT) (S0 : qv_St) : ∀ r, fX11_read S0 = some r → Cn G Lk yX11_read cX11_read 1 (some .int) 9 [.ref (G.2.2.1 0)] S0 (qe_m r) := by
  refine cn_of (own := RX11) (emb := qe_m) (lv := [(0, .ref (G.2.2.1 0))]) rfl rfl (Nat.le_of_ble_eq_true rfl) rfl (fun X => ?_)
  unfold fX11_read
  refine qr_aload_n (n := 1) 0 (dkX11_read (i := 0) rfl) rfl rfl ?_
  refine qr_geta (n := 4) 0 1 3 (dkX11_read (i := 1) rfl) rfl lkO_0 rfl gnX11 (Nat.le_of_ble_eq_true rfl) kfX11_19 rfl ?_
  refine qr_aload_n (n := 5) 0 (dkX11_read (i := 2) rfl) rfl rfl ?_
  refine qr_geta (n := 8) 0 0 1 (dkX11_read (i := 3) rfl) rfl lkO_0 rfl gnX11 (Nat.le_of_ble_eq_true rfl) kfX11_10 rfl ?_
  refine qr_cvu (n := 11) 3 [.ref (G.2.2.1 1)] (dkX11_read (i := 4) rfl) rfl kvX11_104 rfl rfl (Nat.le_of_ble_eq_true rfl) rfl rfl lkO_3 rfl (wX9_cut G S0) (fun S_1 => ?_)
  refine qr_aload_n (n := 12) 0 (dkX11_read (i := 5) rfl) rfl rfl ?_
  refine qr_geta (n := 15) 0 0 1 (dkX11_read (i := 6) rfl) rfl lkO_0 rfl gnX11 (Nat.le_of_ble_eq_true rfl) kfX11_10 rfl ?_
  refine qr_iconst (n := 16) 0 (dkX11_read (i := 7) rfl) rfl (by decide) ?_
  refine qr_puti (n := 19) 1 1 (dkX11_read (i := 8) rfl) rfl lkO_1 rfl gnX8 (Nat.le_of_ble_eq_true rfl) kfX11_96 rfl tyX8_ok nmX8 rfl rfl (fun S_2 => ?_)
  refine qr_aload_n (n := 20) 0 (dkX11_read (i := 9) rfl) rfl rfl ?_
  refine qr_geta (n := 23) 0 2 7 (dkX11_read (i := 10) rfl) rfl lkO_0 rfl gnX11 (Nat.le_of_ble_eq_true rfl) kfX11_28 rfl ?_
  refine qr_cvu (n := 26) 7 [] (dkX11_read (i := 11) rfl) rfl kvX11_108 rfl rfl (Nat.le_of_ble_eq_true rfl) rfl rfl lkO_7 rfl (wX4_check G S_2) (fun S_3 => ?_)
  refine qr_aload_n (n := 27) 0 (dkX11_read (i := 12) rfl) rfl rfl ?_
  refine qr_geta (n := 30) 0 2 7 (dkX11_read (i := 13) rfl) rfl lkO_0 rfl gnX11 (Nat.le_of_ble_eq_true rfl) kfX11_28 rfl ?_
  refine qr_geti (n := 33) 7 8 (dkX11_read (i := 14) rfl) rfl lkO_7 rfl gnX4 (Nat.le_of_ble_eq_true rfl) kfX11_111 rfl ?_
  refine qr_if_ne (t := 51) (n := 36) (dkX11_read (i := 15) rfl) (by decide) rfl ?_ ?_
  · refine qr_aload_n (n := 52) 0 (dkX11_read (i := 23) rfl) rfl rfl ?_
    refine qr_geta (n := 55) 0 2 7 (dkX11_read (i := 24) rfl) rfl lkO_0 rfl gnX11 (Nat.le_of_ble_eq_true rfl) kfX11_28 rfl ?_
    refine qr_geti (n := 58) 7 8 (dkX11_read (i := 25) rfl) rfl lkO_7 rfl gnX4 (Nat.le_of_ble_eq_true rfl) kfX11_111 rfl ?_
    exact qr_iret (dkX11_read (i := 26) rfl) rfl rfl
  · refine qr_aload_n (n := 37) 0 (dkX11_read (i := 16) rfl) rfl rfl ?_
    refine qr_geta (n := 40) 0 3 9 (dkX11_read (i := 17) rfl) rfl lkO_0 rfl gnX11 (Nat.le_of_ble_eq_true rfl) kfX11_35 rfl ?_
    refine qr_aload_n (n := 41) 0 (dkX11_read (i := 18) rfl) rfl rfl ?_
    refine qr_geta (n := 44) 0 1 3 (dkX11_read (i := 19) rfl) rfl lkO_0 rfl gnX11 (Nat.le_of_ble_eq_true rfl) kfX11_19 rfl ?_
    refine qr_cvu (n := 47) 9 [.ref (G.2.2.1 3)] (dkX11_read (i := 20) rfl) rfl kvX11_114 rfl rfl (Nat.le_of_ble_eq_true rfl) rfl rfl lkO_9 rfl (wX5_learn G S_3) (fun S_4 => ?_)
    refine qr_aload_n (n := 48) 0 (dkX11_read (i := 21) rfl) rfl rfl ?_
    refine qr_cvu (n := 51) 0 [] (dkX11_read (i := 22) rfl) rfl kvX11_93 rfl rfl (Nat.le_of_ble_eq_true rfl) rfl rfl lkO_0 rfl (wX11_beginAnew G S_4) (fun S_5 => ?_)
    refine qr_aload_n (n := 52) 0 (dkX11_read (i := 23) rfl) rfl rfl ?_
    refine qr_geta (n := 55) 0 2 7 (dkX11_read (i := 24) rfl) rfl lkO_0 rfl gnX11 (Nat.le_of_ble_eq_true rfl) kfX11_28 rfl ?_
    refine qr_geti (n := 58) 7 8 (dkX11_read (i := 25) rfl) rfl lkO_7 rfl gnX4 (Nat.le_of_ble_eq_true rfl) kfX11_111 rfl ?_
    exact qr_iret (dkX11_read (i := 26) rfl) rfl rfl
def tbX11_place : List (Nat × Instr × Nat) := [(0, .aload_n 0, 1), (1, .getfield 28, 3), (4, .getfield 117, 3), (7, .ireturn, 1)]
set_option maxRecDepth 20000 in
theorem daX11_place : ∀ x ∈ tbX11_place, decode cX11_place x.1 = .ok x.2 := by decide +kernel
theorem dkX11_place {i pc n : Nat} {ins : Instr} (h : tbX11_place[i]? = some (pc, ins, n)) : decode cX11_place pc = .ok (ins, n) := daX11_place (pc, ins, n) (List.mem_of_getElem? h)
def fX11_place (S0 : qv_St) : Option Int32 :=
  some (S0.1 7 9)
set_option maxRecDepth 20000 in
set_option maxHeartbeats 4000000 in
theorem wX11_place (G : qv_GT) (S0 : qv_St) : ∀ r, fX11_place S0 = some r → Cn G Lk yX11_place cX11_place 1 (some .int) 1 [.ref (G.2.2.1 0)] S0 ((qe_i S0) r) := by
  refine cn_of (own := RX11) (emb := (qe_i S0)) (lv := [(0, .ref (G.2.2.1 0))]) rfl rfl (Nat.le_of_ble_eq_true rfl) rfl (fun X => ?_)
  unfold fX11_place
  refine qr_aload_n (n := 1) 0 (dkX11_place (i := 0) rfl) rfl rfl ?_
  refine qr_geta (n := 4) 0 2 7 (dkX11_place (i := 1) rfl) rfl lkO_0 rfl gnX11 (Nat.le_of_ble_eq_true rfl) kfX11_28 rfl ?_
  refine qr_geti (n := 7) 7 9 (dkX11_place (i := 2) rfl) rfl lkO_7 rfl gnX4 (Nat.le_of_ble_eq_true rfl) kfX11_117 rfl ?_
  exact qr_iret (dkX11_place (i := 3) rfl) rfl rfl
def tbX11_isNoise : List (Nat × Instr × Nat) := [(0, .iload_n 1, 1), (1, .iconst 0, 1), (2, .aload_n 0, 1), (3, .getfield 35, 3), (6, .getfield 285, 3), (9, .iconst 1, 1), (10, .isub, 1), (11, .invokestatic 176, 3), (14, .ireturn, 1)]
set_option maxRecDepth 20000 in
theorem daX11_isNoise : ∀ x ∈ tbX11_isNoise, decode cX11_isNoise x.1 = .ok x.2 := by decide +kernel
theorem dkX11_isNoise {i pc n : Nat} {ins : Instr} (h : tbX11_isNoise[i]? = some (pc, ins, n)) : decode cX11_isNoise pc = .ok (ins, n) := daX11_isNoise (pc, ins, n) (List.mem_of_getElem? h)
def fX11_isNoise (S0 : qv_St) (x1 : Int32) : Option Int32 :=
  (fX11_within x1 0 ((S0.1 9 0) - 1)).bind fun r_1 =>
  qv_rz r_1 (some r_1)
set_option maxRecDepth 20000 in
set_option maxHeartbeats 4000000 in
theorem wX11_isNoise (G : qv_GT) (S0 : qv_St) (x1 : Int32) : ∀ r, fX11_isNoise S0 x1 = some r → Cn G Lk yX11_isNoise cX11_isNoise 2 (some .boolean) 2 [.ref (G.2.2.1 0), .int x1] S0 ((qe_i S0) r) := by
  refine cn_of (own := RX11) (emb := (qe_i S0)) (lv := [(0, .ref (G.2.2.1 0)), (1, .int x1)]) rfl rfl (Nat.le_of_ble_eq_true rfl) rfl (fun X => ?_)
  unfold fX11_isNoise
  refine qr_iload_n (n := 1) 1 (dkX11_isNoise (i := 0) rfl) rfl rfl ?_
  refine qr_iconst (n := 2) 0 (dkX11_isNoise (i := 1) rfl) rfl (by decide) ?_
  refine qr_aload_n (n := 3) 0 (dkX11_isNoise (i := 2) rfl) rfl rfl ?_
  refine qr_geta (n := 6) 0 3 9 (dkX11_isNoise (i := 3) rfl) rfl lkO_0 rfl gnX11 (Nat.le_of_ble_eq_true rfl) kfX11_35 rfl ?_
  refine qr_geti (n := 9) 9 0 (dkX11_isNoise (i := 4) rfl) rfl lkO_9 rfl gnX5 (Nat.le_of_ble_eq_true rfl) kfX11_285 rfl ?_
  refine qr_iconst (n := 10) 1 (dkX11_isNoise (i := 5) rfl) rfl (by decide) ?_
  refine qr_isub (n := 11) (dkX11_isNoise (i := 6) rfl) rfl ?_
  refine qr_csi (n := 14) [.int x1, .int 0, .int ((S0.1 9 0) - 1)] (dkX11_isNoise (i := 7) rfl) rfl kvX11_176 rfl rfl (Nat.le_of_ble_eq_true rfl) rfl rfl (wX11_within G S0 x1 0 ((S0.1 9 0) - 1)) (fun r_1 => ?_)
  exact qr_zret (dkX11_isNoise (i := 8) rfl) rfl rfl
def tbX11_ageNow : List (Nat × Instr × Nat) := [(0, .aload_n 0, 1), (1, .getfield 62, 3), (4, .iload_n 1, 1), (5, .aload_n 0, 1), (6, .getfield 42, 3), (9, .getfield 190, 3), (12, .aload_n 0, 1), (13, .getfield 42, 3), (16, .getfield 142, 3), (19, .iload_n 1, 1), (20, .iaload, 1), (21, .invokevirtual 249, 3), (24, .ireturn, 1)]
set_option maxRecDepth 20000 in
theorem daX11_ageNow : ∀ x ∈ tbX11_ageNow, decode cX11_ageNow x.1 = .ok x.2 := by decide +kernel
theorem dkX11_ageNow {i pc n : Nat} {ins : Instr} (h : tbX11_ageNow[i]? = some (pc, ins, n)) : decode cX11_ageNow pc = .ok (ins, n) := daX11_ageNow (pc, ins, n) (List.mem_of_getElem? h)
def fX11_ageNow (S0 : qv_St) (x1 : Int32) : Option (qv_St × Int32) :=
  qv_ck x1 8 <|
  qv_cm (fX0_ageOf S0 x1 (S0.1 31 0) (S0.1 32 (Int32.toNatClampNeg x1))) fun S_1 r_1 =>
  some (S_1, r_1)
set_option maxRecDepth 20000 in
set_option maxHeartbeats 4000000 in
theorem wX11_ageNow (G : qv_GT) (S0 : qv_St) (x1 : Int32) : ∀ r, fX11_ageNow S0 x1 = some r → Cn G Lk yX11_ageNow cX11_ageNow 2 (some .int) 4 [.ref (G.2.2.1 0), .int x1] S0 (qe_m r) := by
  refine cn_of (own := RX11) (emb := qe_m) (lv := [(0, .ref (G.2.2.1 0)), (1, .int x1)]) rfl rfl (Nat.le_of_ble_eq_true rfl) rfl (fun X => ?_)
  unfold fX11_ageNow
  refine qr_aload_n (n := 1) 0 (dkX11_ageNow (i := 0) rfl) rfl rfl ?_
  refine qr_geta (n := 4) 0 8 254 (dkX11_ageNow (i := 1) rfl) rfl lkO_0 rfl gnX11 (Nat.le_of_ble_eq_true rfl) kfX11_62 rfl ?_
  refine qr_iload_n (n := 5) 1 (dkX11_ageNow (i := 2) rfl) rfl rfl ?_
  refine qr_aload_n (n := 6) 0 (dkX11_ageNow (i := 3) rfl) rfl rfl ?_
  refine qr_geta (n := 9) 0 4 31 (dkX11_ageNow (i := 4) rfl) rfl lkO_0 rfl gnX11 (Nat.le_of_ble_eq_true rfl) kfX11_42 rfl ?_
  refine qr_geti (n := 12) 31 0 (dkX11_ageNow (i := 5) rfl) rfl lkO_31 rfl gnX6 (Nat.le_of_ble_eq_true rfl) kfX11_190 rfl ?_
  refine qr_aload_n (n := 13) 0 (dkX11_ageNow (i := 6) rfl) rfl rfl ?_
  refine qr_geta (n := 16) 0 4 31 (dkX11_ageNow (i := 7) rfl) rfl lkO_0 rfl gnX11 (Nat.le_of_ble_eq_true rfl) kfX11_42 rfl ?_
  refine qr_geta (n := 19) 31 4 32 (dkX11_ageNow (i := 8) rfl) rfl lkO_31 rfl gnX6 (Nat.le_of_ble_eq_true rfl) kfX11_142 rfl ?_
  refine qr_iload_n (n := 20) 1 (dkX11_ageNow (i := 9) rfl) rfl rfl ?_
  refine qr_iald (n := 21) 32 8 (dkX11_ageNow (i := 10) rfl) rfl lkA_32 ?_
  refine qr_cvm (n := 24) 254 [.int x1, .int (S0.1 31 0), .int (S0.1 32 (Int32.toNatClampNeg x1))] (dkX11_ageNow (i := 11) rfl) rfl kvX11_249 rfl rfl (Nat.le_of_ble_eq_true rfl) rfl rfl lkO_254 rfl (wX0_ageOf G S0 x1 (S0.1 31 0) (S0.1 32 (Int32.toNatClampNeg x1))) (fun S_1 r_1 => ?_)
  exact qr_iret (dkX11_ageNow (i := 12) rfl) rfl rfl
def tbX11_noise : List (Nat × Instr × Nat) := [(0, .aload_n 0, 1), (1, .iload_n 1, 1), (2, .invokevirtual 120, 3), (5, .ifCond .ne 5, 3), (8, .iconst (-1), 1), (9, .ireturn, 1), (10, .iload_n 2, 1), (11, .tableswitch 147 0 8 #[49, 67, 77, 87, 97, 111, 117, 127, 137], 49), (60, .aload_n 0, 1), (61, .getfield 35, 3), (64, .getfield 124, 3), (67, .iload_n 1, 1), (68, .baload, 1), (69, .ifCond .eq 7, 3), (72, .iconst 1, 1), (73, .goto 4, 3), (76, .iconst 0, 1), (77, .ireturn, 1), (78, .aload_n 0, 1), (79, .getfield 35, 3), (82, .getfield 128, 3), (85, .iload_n 1, 1), (86, .iaload, 1), (87, .ireturn, 1), (88, .aload_n 0, 1), (89, .getfield 35, 3), (92, .getfield 132, 3), (95, .iload_n 1, 1), (96, .iaload, 1), (97, .ireturn, 1), (98, .aload_n 0, 1), (99, .getfield 35, 3), (102, .getfield 135, 3), (105, .iload_n 1, 1), (106, .iaload, 1), (107, .ireturn, 1), (108, .aload_n 0, 1), (109, .iload_n 1, 1), (110, .invokevirtual 138, 3), (113, .ifCond .ge 7, 3), (116, .iconst 0, 1), (117, .goto 4, 3), (120, .iconst 1, 1), (121, .ireturn, 1), (122, .aload_n 0, 1), (123, .iload_n 1, 1), (124, .invokevirtual 138, 3), (127, .ireturn, 1), (128, .aload_n 0, 1), (129, .getfield 42, 3), (132, .getfield 142, 3), (135, .iload_n 1, 1), (136, .iaload, 1), (137, .ireturn, 1), (138, .aload_n 0, 1), (139, .getfield 35, 3), (142, .getfield 145, 3), (145, .iload_n 1, 1), (146, .iaload, 1), (147, .ireturn, 1), (148, .aload_n 0, 1), (149, .getfield 35, 3), (152, .getfield 148, 3), (155, .iload_n 1, 1), (156, .iaload, 1), (157, .ireturn, 1), (158, .iconst (-1), 1), (159, .ireturn, 1)]
set_option maxRecDepth 20000 in
theorem daX11_noise : ∀ x ∈ tbX11_noise, decode cX11_noise x.1 = .ok x.2 := by decide +kernel
theorem dkX11_noise {i pc n : Nat} {ins : Instr} (h : tbX11_noise[i]? = some (pc, ins, n)) : decode cX11_noise pc = .ok (ins, n) := daX11_noise (pc, ins, n) (List.mem_of_getElem? h)
def fX11_noise (S0 : qv_St) (x1 : Int32) (x2 : Int32) : Option (qv_St × Int32) :=
  (fX11_isNoise S0 x1).bind fun r_1 =>
  if r_1 = 0 then
    some (S0, (-1))
  else
    qv_sw x2 0 8 [
      qv_ck x1 8 <|
      if (S0.1 10 (Int32.toNatClampNeg x1)) = 0 then
        some (S0, 0)
      else
        some (S0, 1),
      qv_ck x1 8 <|
      some (S0, (S0.1 13 (Int32.toNatClampNeg x1))),
      qv_ck x1 8 <|
      some (S0, (S0.1 14 (Int32.toNatClampNeg x1))),
      qv_ck x1 8 <|
      some (S0, (S0.1 15 (Int32.toNatClampNeg x1))),
      qv_cm (fX11_ageNow S0 x1) fun S_1 r_2 =>
      if 0 ≤ r_2 then
        some (S_1, 1)
      else
        some (S_1, 0),
      qv_cm (fX11_ageNow S0 x1) fun S_2 r_3 =>
      some (S_2, r_3),
      qv_ck x1 8 <|
      some (S0, (S0.1 32 (Int32.toNatClampNeg x1))),
      qv_ck x1 8 <|
      some (S0, (S0.1 11 (Int32.toNatClampNeg x1))),
      qv_ck x1 8 <|
      some (S0, (S0.1 12 (Int32.toNatClampNeg x1)))] (
      some (S0, (-1)))
set_option maxRecDepth 20000 in
set_option maxHeartbeats 4000000 in
theorem wX11_noise (G : qv_GT) (S0 : qv_St) (x1 : Int32) (x2 : Int32) : ∀ r, fX11_noise S0 x1 x2 = some r → Cn G Lk yX11_noise cX11_noise 3 (some .int) 5 [.ref (G.2.2.1 0), .int x1, .int x2] S0 (qe_m r) := by
  refine cn_of (own := RX11) (emb := qe_m) (lv := [(0, .ref (G.2.2.1 0)), (1, .int x1), (2, .int x2)]) rfl rfl (Nat.le_of_ble_eq_true rfl) rfl (fun X => ?_)
  unfold fX11_noise
  refine qr_aload_n (n := 1) 0 (dkX11_noise (i := 0) rfl) rfl rfl ?_
  refine qr_iload_n (n := 2) 1 (dkX11_noise (i := 1) rfl) rfl rfl ?_
  refine qr_cvi (n := 5) 0 [.int x1] (dkX11_noise (i := 2) rfl) rfl kvX11_120 rfl rfl (Nat.le_of_ble_eq_true rfl) rfl rfl lkO_0 rfl (wX11_isNoise G S0 x1) (fun r_1 => ?_)
  refine qr_if_ne (t := 10) (n := 8) (dkX11_noise (i := 3) rfl) (by decide) rfl ?_ ?_
  · refine qr_iload_n (n := 11) 2 (dkX11_noise (i := 6) rfl) rfl rfl ?_
    refine qr_sw (td := 158) (dkX11_noise (i := 7) rfl) (by decide) ?_ ⟨⟨60, by decide, ?_⟩, ⟨78, by decide, ?_⟩, ⟨88, by decide, ?_⟩, ⟨98, by decide, ?_⟩, ⟨108, by decide, ?_⟩, ⟨122, by decide, ?_⟩, ⟨128, by decide, ?_⟩, ⟨138, by decide, ?_⟩, ⟨148, by decide, ?_⟩, trivial⟩
    · refine qr_iconst (n := 159) (-1) (dkX11_noise (i := 66) rfl) rfl (by decide) ?_
      exact qr_iret (dkX11_noise (i := 67) rfl) rfl rfl
    · refine qr_aload_n (n := 61) 0 (dkX11_noise (i := 8) rfl) rfl rfl ?_
      refine qr_geta (n := 64) 0 3 9 (dkX11_noise (i := 9) rfl) rfl lkO_0 rfl gnX11 (Nat.le_of_ble_eq_true rfl) kfX11_35 rfl ?_
      refine qr_geta (n := 67) 9 3 10 (dkX11_noise (i := 10) rfl) rfl lkO_9 rfl gnX5 (Nat.le_of_ble_eq_true rfl) kfX11_124 rfl ?_
      refine qr_iload_n (n := 68) 1 (dkX11_noise (i := 11) rfl) rfl rfl ?_
      refine qr_zald (n := 69) 10 8 (dkX11_noise (i := 12) rfl) rfl lkA_10 ?_
      refine qr_if_eq (t := 76) (n := 72) (dkX11_noise (i := 13) rfl) (by decide) rfl ?_ ?_
      · refine qr_iconst (n := 77) 0 (dkX11_noise (i := 16) rfl) rfl (by decide) ?_
        exact qr_iret (dkX11_noise (i := 17) rfl) rfl rfl
      · refine qr_iconst (n := 73) 1 (dkX11_noise (i := 14) rfl) rfl (by decide) ?_
        refine qr_goto (n := 77) (dkX11_noise (i := 15) rfl) (by decide) ?_
        exact qr_iret (dkX11_noise (i := 17) rfl) rfl rfl
    · refine qr_aload_n (n := 79) 0 (dkX11_noise (i := 18) rfl) rfl rfl ?_
      refine qr_geta (n := 82) 0 3 9 (dkX11_noise (i := 19) rfl) rfl lkO_0 rfl gnX11 (Nat.le_of_ble_eq_true rfl) kfX11_35 rfl ?_
      refine qr_geta (n := 85) 9 6 13 (dkX11_noise (i := 20) rfl) rfl lkO_9 rfl gnX5 (Nat.le_of_ble_eq_true rfl) kfX11_128 rfl ?_
      refine qr_iload_n (n := 86) 1 (dkX11_noise (i := 21) rfl) rfl rfl ?_
      refine qr_iald (n := 87) 13 8 (dkX11_noise (i := 22) rfl) rfl lkA_13 ?_
      exact qr_iret (dkX11_noise (i := 23) rfl) rfl rfl
    · refine qr_aload_n (n := 89) 0 (dkX11_noise (i := 24) rfl) rfl rfl ?_
      refine qr_geta (n := 92) 0 3 9 (dkX11_noise (i := 25) rfl) rfl lkO_0 rfl gnX11 (Nat.le_of_ble_eq_true rfl) kfX11_35 rfl ?_
      refine qr_geta (n := 95) 9 7 14 (dkX11_noise (i := 26) rfl) rfl lkO_9 rfl gnX5 (Nat.le_of_ble_eq_true rfl) kfX11_132 rfl ?_
      refine qr_iload_n (n := 96) 1 (dkX11_noise (i := 27) rfl) rfl rfl ?_
      refine qr_iald (n := 97) 14 8 (dkX11_noise (i := 28) rfl) rfl lkA_14 ?_
      exact qr_iret (dkX11_noise (i := 29) rfl) rfl rfl
    · refine qr_aload_n (n := 99) 0 (dkX11_noise (i := 30) rfl) rfl rfl ?_
      refine qr_geta (n := 102) 0 3 9 (dkX11_noise (i := 31) rfl) rfl lkO_0 rfl gnX11 (Nat.le_of_ble_eq_true rfl) kfX11_35 rfl ?_
      refine qr_geta (n := 105) 9 8 15 (dkX11_noise (i := 32) rfl) rfl lkO_9 rfl gnX5 (Nat.le_of_ble_eq_true rfl) kfX11_135 rfl ?_
      refine qr_iload_n (n := 106) 1 (dkX11_noise (i := 33) rfl) rfl rfl ?_
      refine qr_iald (n := 107) 15 8 (dkX11_noise (i := 34) rfl) rfl lkA_15 ?_
      exact qr_iret (dkX11_noise (i := 35) rfl) rfl rfl
    · refine qr_aload_n (n := 109) 0 (dkX11_noise (i := 36) rfl) rfl rfl ?_
      refine qr_iload_n (n := 110) 1 (dkX11_noise (i := 37) rfl) rfl rfl ?_
      refine qr_cvm (n := 113) 0 [.int x1] (dkX11_noise (i := 38) rfl) rfl kvX11_138 rfl rfl (Nat.le_of_ble_eq_true rfl) rfl rfl lkO_0 rfl (wX11_ageNow G S0 x1) (fun S_1 r_2 => ?_)
      refine qr_if_ge (t := 120) (n := 116) (dkX11_noise (i := 39) rfl) (by decide) rfl ?_ ?_
      · refine qr_iconst (n := 121) 1 (dkX11_noise (i := 42) rfl) rfl (by decide) ?_
        exact qr_iret (dkX11_noise (i := 43) rfl) rfl rfl
      · refine qr_iconst (n := 117) 0 (dkX11_noise (i := 40) rfl) rfl (by decide) ?_
        refine qr_goto (n := 121) (dkX11_noise (i := 41) rfl) (by decide) ?_
        exact qr_iret (dkX11_noise (i := 43) rfl) rfl rfl
    · refine qr_aload_n (n := 123) 0 (dkX11_noise (i := 44) rfl) rfl rfl ?_
      refine qr_iload_n (n := 124) 1 (dkX11_noise (i := 45) rfl) rfl rfl ?_
      refine qr_cvm (n := 127) 0 [.int x1] (dkX11_noise (i := 46) rfl) rfl kvX11_138 rfl rfl (Nat.le_of_ble_eq_true rfl) rfl rfl lkO_0 rfl (wX11_ageNow G S0 x1) (fun S_2 r_3 => ?_)
      exact qr_iret (dkX11_noise (i := 47) rfl) rfl rfl
    · refine qr_aload_n (n := 129) 0 (dkX11_noise (i := 48) rfl) rfl rfl ?_
      refine qr_geta (n := 132) 0 4 31 (dkX11_noise (i := 49) rfl) rfl lkO_0 rfl gnX11 (Nat.le_of_ble_eq_true rfl) kfX11_42 rfl ?_
      refine qr_geta (n := 135) 31 4 32 (dkX11_noise (i := 50) rfl) rfl lkO_31 rfl gnX6 (Nat.le_of_ble_eq_true rfl) kfX11_142 rfl ?_
      refine qr_iload_n (n := 136) 1 (dkX11_noise (i := 51) rfl) rfl rfl ?_
      refine qr_iald (n := 137) 32 8 (dkX11_noise (i := 52) rfl) rfl lkA_32 ?_
      exact qr_iret (dkX11_noise (i := 53) rfl) rfl rfl
    · refine qr_aload_n (n := 139) 0 (dkX11_noise (i := 54) rfl) rfl rfl ?_
      refine qr_geta (n := 142) 0 3 9 (dkX11_noise (i := 55) rfl) rfl lkO_0 rfl gnX11 (Nat.le_of_ble_eq_true rfl) kfX11_35 rfl ?_
      refine qr_geta (n := 145) 9 4 11 (dkX11_noise (i := 56) rfl) rfl lkO_9 rfl gnX5 (Nat.le_of_ble_eq_true rfl) kfX11_145 rfl ?_
      refine qr_iload_n (n := 146) 1 (dkX11_noise (i := 57) rfl) rfl rfl ?_
      refine qr_iald (n := 147) 11 8 (dkX11_noise (i := 58) rfl) rfl lkA_11 ?_
      exact qr_iret (dkX11_noise (i := 59) rfl) rfl rfl
    · refine qr_aload_n (n := 149) 0 (dkX11_noise (i := 60) rfl) rfl rfl ?_
      refine qr_geta (n := 152) 0 3 9 (dkX11_noise (i := 61) rfl) rfl lkO_0 rfl gnX11 (Nat.le_of_ble_eq_true rfl) kfX11_35 rfl ?_
      refine qr_geta (n := 155) 9 5 12 (dkX11_noise (i := 62) rfl) rfl lkO_9 rfl gnX5 (Nat.le_of_ble_eq_true rfl) kfX11_148 rfl ?_
      refine qr_iload_n (n := 156) 1 (dkX11_noise (i := 63) rfl) rfl rfl ?_
      refine qr_iald (n := 157) 12 8 (dkX11_noise (i := 64) rfl) rfl lkA_12 ?_
      exact qr_iret (dkX11_noise (i := 65) rfl) rfl rfl
  · refine qr_iconst (n := 9) (-1) (dkX11_noise (i := 4) rfl) rfl (by decide) ?_
    exact qr_iret (dkX11_noise (i := 5) rfl) rfl rfl
def tbX11_isShot : List (Nat × Instr × Nat) := [(0, .iload_n 1, 1), (1, .iconst 0, 1), (2, .aload_n 0, 1), (3, .getfield 35, 3), (6, .getfield 335, 3), (9, .iconst 1, 1), (10, .isub, 1), (11, .invokestatic 176, 3), (14, .ireturn, 1)]
set_option maxRecDepth 20000 in
theorem daX11_isShot : ∀ x ∈ tbX11_isShot, decode cX11_isShot x.1 = .ok x.2 := by decide +kernel
theorem dkX11_isShot {i pc n : Nat} {ins : Instr} (h : tbX11_isShot[i]? = some (pc, ins, n)) : decode cX11_isShot pc = .ok (ins, n) := daX11_isShot (pc, ins, n) (List.mem_of_getElem? h)
def fX11_isShot (S0 : qv_St) (x1 : Int32) : Option Int32 :=
  (fX11_within x1 0 ((S0.1 9 2) - 1)).bind fun r_1 =>
  qv_rz r_1 (some r_1)
set_option maxRecDepth 20000 in
set_option maxHeartbeats 4000000 in
theorem wX11_isShot (G : qv_GT) (S0 : qv_St) (x1 : Int32) : ∀ r, fX11_isShot S0 x1 = some r → Cn G Lk yX11_isShot cX11_isShot 2 (some .boolean) 2 [.ref (G.2.2.1 0), .int x1] S0 ((qe_i S0) r) := by
  refine cn_of (own := RX11) (emb := (qe_i S0)) (lv := [(0, .ref (G.2.2.1 0)), (1, .int x1)]) rfl rfl (Nat.le_of_ble_eq_true rfl) rfl (fun X => ?_)
  unfold fX11_isShot
  refine qr_iload_n (n := 1) 1 (dkX11_isShot (i := 0) rfl) rfl rfl ?_
  refine qr_iconst (n := 2) 0 (dkX11_isShot (i := 1) rfl) rfl (by decide) ?_
  refine qr_aload_n (n := 3) 0 (dkX11_isShot (i := 2) rfl) rfl rfl ?_
  refine qr_geta (n := 6) 0 3 9 (dkX11_isShot (i := 3) rfl) rfl lkO_0 rfl gnX11 (Nat.le_of_ble_eq_true rfl) kfX11_35 rfl ?_
  refine qr_geti (n := 9) 9 2 (dkX11_isShot (i := 4) rfl) rfl lkO_9 rfl gnX5 (Nat.le_of_ble_eq_true rfl) kfX11_335 rfl ?_
  refine qr_iconst (n := 10) 1 (dkX11_isShot (i := 5) rfl) rfl (by decide) ?_
  refine qr_isub (n := 11) (dkX11_isShot (i := 6) rfl) rfl ?_
  refine qr_csi (n := 14) [.int x1, .int 0, .int ((S0.1 9 2) - 1)] (dkX11_isShot (i := 7) rfl) rfl kvX11_176 rfl rfl (Nat.le_of_ble_eq_true rfl) rfl rfl (wX11_within G S0 x1 0 ((S0.1 9 2) - 1)) (fun r_1 => ?_)
  exact qr_zret (dkX11_isShot (i := 8) rfl) rfl rfl
def tbX11_shot : List (Nat × Instr × Nat) := [(0, .aload_n 0, 1), (1, .iload_n 1, 1), (2, .invokevirtual 151, 3), (5, .ifCond .ne 5, 3), (8, .iconst (-1), 1), (9, .ireturn, 1), (10, .iload_n 2, 1), (11, .tableswitch 108 0 5 #[37, 47, 57, 67, 88, 98], 37), (48, .aload_n 0, 1), (49, .getfield 35, 3), (52, .getfield 154, 3), (55, .iload_n 1, 1), (56, .iaload, 1), (57, .ireturn, 1), (58, .aload_n 0, 1), (59, .getfield 35, 3), (62, .getfield 157, 3), (65, .iload_n 1, 1), (66, .iaload, 1), (67, .ireturn, 1), (68, .aload_n 0, 1), (69, .getfield 42, 3), (72, .getfield 160, 3), (75, .iload_n 1, 1), (76, .iaload, 1), (77, .ireturn, 1), (78, .aload_n 0, 1), (79, .getfield 42, 3), (82, .iload_n 1, 1), (83, .aload_n 0, 1), (84, .getfield 35, 3), (87, .invokevirtual 163, 3), (90, .ifCond .eq 7, 3), (93, .iconst 1, 1), (94, .goto 4, 3), (97, .iconst 0, 1), (98, .ireturn, 1), (99, .aload_n 0, 1), (100, .getfield 42, 3), (103, .getfield 167, 3), (106, .iload_n 1, 1), (107, .iaload, 1), (108, .ireturn, 1), (109, .aload_n 0, 1), (110, .getfield 42, 3), (113, .getfield 170, 3), (116, .iload_n 1, 1), (117, .iaload, 1), (118, .ireturn, 1), (119, .iconst (-1), 1), (120, .ireturn, 1)]
set_option maxRecDepth 20000 in
theorem daX11_shot : ∀ x ∈ tbX11_shot, decode cX11_shot x.1 = .ok x.2 := by decide +kernel
theorem dkX11_shot {i pc n : Nat} {ins : Instr} (h : tbX11_shot[i]? = some (pc, ins, n)) : decode cX11_shot pc = .ok (ins, n) := daX11_shot (pc, ins, n) (List.mem_of_getElem? h)
def fX11_shot (S0 : qv_St) (x1 : Int32) (x2 : Int32) : Option Int32 :=
  (fX11_isShot S0 x1).bind fun r_1 =>
  if r_1 = 0 then
    some (-1)
  else
    qv_sw x2 0 5 [
      qv_ck x1 6 <|
      some (S0.1 17 (Int32.toNatClampNeg x1)),
      qv_ck x1 6 <|
      some (S0.1 18 (Int32.toNatClampNeg x1)),
      qv_ck x1 6 <|
      some (S0.1 33 (Int32.toNatClampNeg x1)),
      (fX6_isDone S0 31 x1).bind fun r_2 =>
      if r_2 = 0 then
        some 0
      else
        some 1,
      qv_ck x1 6 <|
      some (S0.1 34 (Int32.toNatClampNeg x1)),
      qv_ck x1 6 <|
      some (S0.1 35 (Int32.toNatClampNeg x1))] (
      some (-1))
set_option maxRecDepth 20000 in
set_option maxHeartbeats 4000000 in
theorem wX11_shot (G : qv_GT) (S0 : qv_St) (x1 : Int32) (x2 : Int32) : ∀ r, fX11_shot S0 x1 x2 = some r → Cn G Lk yX11_shot cX11_shot 3 (some .int) 3 [.ref (G.2.2.1 0), .int x1, .int x2] S0 ((qe_i S0) r) := by
  refine cn_of (own := RX11) (emb := (qe_i S0)) (lv := [(0, .ref (G.2.2.1 0)), (1, .int x1), (2, .int x2)]) rfl rfl (Nat.le_of_ble_eq_true rfl) rfl (fun X => ?_)
  unfold fX11_shot
  refine qr_aload_n (n := 1) 0 (dkX11_shot (i := 0) rfl) rfl rfl ?_
  refine qr_iload_n (n := 2) 1 (dkX11_shot (i := 1) rfl) rfl rfl ?_
  refine qr_cvi (n := 5) 0 [.int x1] (dkX11_shot (i := 2) rfl) rfl kvX11_151 rfl rfl (Nat.le_of_ble_eq_true rfl) rfl rfl lkO_0 rfl (wX11_isShot G S0 x1) (fun r_1 => ?_)
  refine qr_if_ne (t := 10) (n := 8) (dkX11_shot (i := 3) rfl) (by decide) rfl ?_ ?_
  · refine qr_iload_n (n := 11) 2 (dkX11_shot (i := 6) rfl) rfl rfl ?_
    refine qr_sw (td := 119) (dkX11_shot (i := 7) rfl) (by decide) ?_ ⟨⟨48, by decide, ?_⟩, ⟨58, by decide, ?_⟩, ⟨68, by decide, ?_⟩, ⟨78, by decide, ?_⟩, ⟨99, by decide, ?_⟩, ⟨109, by decide, ?_⟩, trivial⟩
    · refine qr_iconst (n := 120) (-1) (dkX11_shot (i := 49) rfl) rfl (by decide) ?_
      exact qr_iret (dkX11_shot (i := 50) rfl) rfl rfl
    · refine qr_aload_n (n := 49) 0 (dkX11_shot (i := 8) rfl) rfl rfl ?_
      refine qr_geta (n := 52) 0 3 9 (dkX11_shot (i := 9) rfl) rfl lkO_0 rfl gnX11 (Nat.le_of_ble_eq_true rfl) kfX11_35 rfl ?_
      refine qr_geta (n := 55) 9 10 17 (dkX11_shot (i := 10) rfl) rfl lkO_9 rfl gnX5 (Nat.le_of_ble_eq_true rfl) kfX11_154 rfl ?_
      refine qr_iload_n (n := 56) 1 (dkX11_shot (i := 11) rfl) rfl rfl ?_
      refine qr_iald (n := 57) 17 6 (dkX11_shot (i := 12) rfl) rfl lkA_17 ?_
      exact qr_iret (dkX11_shot (i := 13) rfl) rfl rfl
    · refine qr_aload_n (n := 59) 0 (dkX11_shot (i := 14) rfl) rfl rfl ?_
      refine qr_geta (n := 62) 0 3 9 (dkX11_shot (i := 15) rfl) rfl lkO_0 rfl gnX11 (Nat.le_of_ble_eq_true rfl) kfX11_35 rfl ?_
      refine qr_geta (n := 65) 9 11 18 (dkX11_shot (i := 16) rfl) rfl lkO_9 rfl gnX5 (Nat.le_of_ble_eq_true rfl) kfX11_157 rfl ?_
      refine qr_iload_n (n := 66) 1 (dkX11_shot (i := 17) rfl) rfl rfl ?_
      refine qr_iald (n := 67) 18 6 (dkX11_shot (i := 18) rfl) rfl lkA_18 ?_
      exact qr_iret (dkX11_shot (i := 19) rfl) rfl rfl
    · refine qr_aload_n (n := 69) 0 (dkX11_shot (i := 20) rfl) rfl rfl ?_
      refine qr_geta (n := 72) 0 4 31 (dkX11_shot (i := 21) rfl) rfl lkO_0 rfl gnX11 (Nat.le_of_ble_eq_true rfl) kfX11_42 rfl ?_
      refine qr_geta (n := 75) 31 5 33 (dkX11_shot (i := 22) rfl) rfl lkO_31 rfl gnX6 (Nat.le_of_ble_eq_true rfl) kfX11_160 rfl ?_
      refine qr_iload_n (n := 76) 1 (dkX11_shot (i := 23) rfl) rfl rfl ?_
      refine qr_iald (n := 77) 33 6 (dkX11_shot (i := 24) rfl) rfl lkA_33 ?_
      exact qr_iret (dkX11_shot (i := 25) rfl) rfl rfl
    · refine qr_aload_n (n := 79) 0 (dkX11_shot (i := 26) rfl) rfl rfl ?_
      refine qr_geta (n := 82) 0 4 31 (dkX11_shot (i := 27) rfl) rfl lkO_0 rfl gnX11 (Nat.le_of_ble_eq_true rfl) kfX11_42 rfl ?_
      refine qr_iload_n (n := 83) 1 (dkX11_shot (i := 28) rfl) rfl rfl ?_
      refine qr_aload_n (n := 84) 0 (dkX11_shot (i := 29) rfl) rfl rfl ?_
      refine qr_geta (n := 87) 0 3 9 (dkX11_shot (i := 30) rfl) rfl lkO_0 rfl gnX11 (Nat.le_of_ble_eq_true rfl) kfX11_35 rfl ?_
      refine qr_cvi (n := 90) 31 [.int x1, .ref (G.2.2.1 9)] (dkX11_shot (i := 31) rfl) rfl kvX11_163 rfl rfl (Nat.le_of_ble_eq_true rfl) rfl rfl lkO_31 rfl (wX6_isDone G S0 31 x1 isS_31) (fun r_2 => ?_)
      refine qr_if_eq (t := 97) (n := 93) (dkX11_shot (i := 32) rfl) (by decide) rfl ?_ ?_
      · refine qr_iconst (n := 98) 0 (dkX11_shot (i := 35) rfl) rfl (by decide) ?_
        exact qr_iret (dkX11_shot (i := 36) rfl) rfl rfl
      · refine qr_iconst (n := 94) 1 (dkX11_shot (i := 33) rfl) rfl (by decide) ?_
        refine qr_goto (n := 98) (dkX11_shot (i := 34) rfl) (by decide) ?_
        exact qr_iret (dkX11_shot (i := 36) rfl) rfl rfl
    · refine qr_aload_n (n := 100) 0 (dkX11_shot (i := 37) rfl) rfl rfl ?_
      refine qr_geta (n := 103) 0 4 31 (dkX11_shot (i := 38) rfl) rfl lkO_0 rfl gnX11 (Nat.le_of_ble_eq_true rfl) kfX11_42 rfl ?_
      refine qr_geta (n := 106) 31 6 34 (dkX11_shot (i := 39) rfl) rfl lkO_31 rfl gnX6 (Nat.le_of_ble_eq_true rfl) kfX11_167 rfl ?_
      refine qr_iload_n (n := 107) 1 (dkX11_shot (i := 40) rfl) rfl rfl ?_
      refine qr_iald (n := 108) 34 6 (dkX11_shot (i := 41) rfl) rfl lkA_34 ?_
      exact qr_iret (dkX11_shot (i := 42) rfl) rfl rfl
    · refine qr_aload_n (n := 110) 0 (dkX11_shot (i := 43) rfl) rfl rfl ?_
      refine qr_geta (n := 113) 0 4 31 (dkX11_shot (i := 44) rfl) rfl lkO_0 rfl gnX11 (Nat.le_of_ble_eq_true rfl) kfX11_42 rfl ?_
      refine qr_geta (n := 116) 31 7 35 (dkX11_shot (i := 45) rfl) rfl lkO_31 rfl gnX6 (Nat.le_of_ble_eq_true rfl) kfX11_170 rfl ?_
      refine qr_iload_n (n := 117) 1 (dkX11_shot (i := 46) rfl) rfl rfl ?_
      refine qr_iald (n := 118) 35 6 (dkX11_shot (i := 47) rfl) rfl lkA_35 ?_
      exact qr_iret (dkX11_shot (i := 48) rfl) rfl rfl
  · refine qr_iconst (n := 9) (-1) (dkX11_shot (i := 4) rfl) rfl (by decide) ?_
    exact qr_iret (dkX11_shot (i := 5) rfl) rfl rfl
def tbX11_isPlace : List (Nat × Instr × Nat) := [(0, .iload_n 1, 1), (1, .iconst 0, 1), (2, .aload_n 0, 1), (3, .getfield 35, 3), (6, .getfield 196, 3), (9, .iconst 1, 1), (10, .isub, 1), (11, .invokestatic 176, 3), (14, .ireturn, 1)]
set_option maxRecDepth 20000 in
theorem daX11_isPlace : ∀ x ∈ tbX11_isPlace, decode cX11_isPlace x.1 = .ok x.2 := by decide +kernel
theorem dkX11_isPlace {i pc n : Nat} {ins : Instr} (h : tbX11_isPlace[i]? = some (pc, ins, n)) : decode cX11_isPlace pc = .ok (ins, n) := daX11_isPlace (pc, ins, n) (List.mem_of_getElem? h)
def fX11_isPlace (S0 : qv_St) (x1 : Int32) : Option Int32 :=
  (fX11_within x1 0 ((S0.1 9 1) - 1)).bind fun r_1 =>
  qv_rz r_1 (some r_1)
set_option maxRecDepth 20000 in
set_option maxHeartbeats 4000000 in
theorem wX11_isPlace (G : qv_GT) (S0 : qv_St) (x1 : Int32) : ∀ r, fX11_isPlace S0 x1 = some r → Cn G Lk yX11_isPlace cX11_isPlace 2 (some .boolean) 2 [.ref (G.2.2.1 0), .int x1] S0 ((qe_i S0) r) := by
  refine cn_of (own := RX11) (emb := (qe_i S0)) (lv := [(0, .ref (G.2.2.1 0)), (1, .int x1)]) rfl rfl (Nat.le_of_ble_eq_true rfl) rfl (fun X => ?_)
  unfold fX11_isPlace
  refine qr_iload_n (n := 1) 1 (dkX11_isPlace (i := 0) rfl) rfl rfl ?_
  refine qr_iconst (n := 2) 0 (dkX11_isPlace (i := 1) rfl) rfl (by decide) ?_
  refine qr_aload_n (n := 3) 0 (dkX11_isPlace (i := 2) rfl) rfl rfl ?_
  refine qr_geta (n := 6) 0 3 9 (dkX11_isPlace (i := 3) rfl) rfl lkO_0 rfl gnX11 (Nat.le_of_ble_eq_true rfl) kfX11_35 rfl ?_
  refine qr_geti (n := 9) 9 1 (dkX11_isPlace (i := 4) rfl) rfl lkO_9 rfl gnX5 (Nat.le_of_ble_eq_true rfl) kfX11_196 rfl ?_
  refine qr_iconst (n := 10) 1 (dkX11_isPlace (i := 5) rfl) rfl (by decide) ?_
  refine qr_isub (n := 11) (dkX11_isPlace (i := 6) rfl) rfl ?_
  refine qr_csi (n := 14) [.int x1, .int 0, .int ((S0.1 9 1) - 1)] (dkX11_isPlace (i := 7) rfl) rfl kvX11_176 rfl rfl (Nat.le_of_ble_eq_true rfl) rfl rfl (wX11_within G S0 x1 0 ((S0.1 9 1) - 1)) (fun r_1 => ?_)
  exact qr_zret (dkX11_isPlace (i := 8) rfl) rfl rfl
def tbX11_heard : List (Nat × Instr × Nat) := [(0, .aload_n 0, 1), (1, .iload_n 1, 1), (2, .invokevirtual 120, 3), (5, .ifCond .eq 22, 3), (8, .aload_n 0, 1), (9, .iload_n 2, 1), (10, .invokevirtual 173, 3), (13, .ifCond .eq 14, 3), (16, .iload_n 3, 1), (17, .iconst 0, 1), (18, .sipush 300, 3), (21, .invokestatic 176, 3), (24, .ifCond .ne 5, 3), (27, .iconst (-1), 1), (28, .ireturn, 1), (29, .aload_n 0, 1), (30, .getfield 71, 3), (33, .iload_n 1, 1), (34, .iload_n 2, 1), (35, .iload_n 3, 1), (36, .invokevirtual 180, 3), (39, .ireturn, 1)]
set_option maxRecDepth 20000 in
theorem daX11_heard : ∀ x ∈ tbX11_heard, decode cX11_heard x.1 = .ok x.2 := by decide +kernel
theorem dkX11_heard {i pc n : Nat} {ins : Instr} (h : tbX11_heard[i]? = some (pc, ins, n)) : decode cX11_heard pc = .ok (ins, n) := daX11_heard (pc, ins, n) (List.mem_of_getElem? h)
def fX11_heard (S0 : qv_St) (x1 : Int32) (x2 : Int32) (x3 : Int32) : Option (qv_St × Int32) :=
  (fX11_isNoise S0 x1).bind fun r_1 =>
  if r_1 = 0 then
    some (S0, (-1))
  else
    (fX11_isPlace S0 x2).bind fun r_2 =>
    if r_2 = 0 then
      some (S0, (-1))
    else
      (fX11_within x3 0 300).bind fun r_3 =>
      if r_3 = 0 then
        some (S0, (-1))
      else
        qv_cm (fX7_heardOf S0 x1 x2 x3) fun S_1 r_4 =>
        some (S_1, r_4)
set_option maxRecDepth 20000 in
set_option maxHeartbeats 4000000 in
theorem wX11_heard (G : qv_GT) (S0 : qv_St) (x1 : Int32) (x2 : Int32) (x3 : Int32) : ∀ r, fX11_heard S0 x1 x2 x3 = some r → Cn G Lk yX11_heard cX11_heard 4 (some .int) 5 [.ref (G.2.2.1 0), .int x1, .int x2, .int x3] S0 (qe_m r) := by
  refine cn_of (own := RX11) (emb := qe_m) (lv := [(0, .ref (G.2.2.1 0)), (1, .int x1), (2, .int x2), (3, .int x3)]) rfl rfl (Nat.le_of_ble_eq_true rfl) rfl (fun X => ?_)
  unfold fX11_heard
  refine qr_aload_n (n := 1) 0 (dkX11_heard (i := 0) rfl) rfl rfl ?_
  refine qr_iload_n (n := 2) 1 (dkX11_heard (i := 1) rfl) rfl rfl ?_
  refine qr_cvi (n := 5) 0 [.int x1] (dkX11_heard (i := 2) rfl) rfl kvX11_120 rfl rfl (Nat.le_of_ble_eq_true rfl) rfl rfl lkO_0 rfl (wX11_isNoise G S0 x1) (fun r_1 => ?_)
  refine qr_if_eq (t := 27) (n := 8) (dkX11_heard (i := 3) rfl) (by decide) rfl ?_ ?_
  · refine qr_iconst (n := 28) (-1) (dkX11_heard (i := 13) rfl) rfl (by decide) ?_
    exact qr_iret (dkX11_heard (i := 14) rfl) rfl rfl
  · refine qr_aload_n (n := 9) 0 (dkX11_heard (i := 4) rfl) rfl rfl ?_
    refine qr_iload_n (n := 10) 2 (dkX11_heard (i := 5) rfl) rfl rfl ?_
    refine qr_cvi (n := 13) 0 [.int x2] (dkX11_heard (i := 6) rfl) rfl kvX11_173 rfl rfl (Nat.le_of_ble_eq_true rfl) rfl rfl lkO_0 rfl (wX11_isPlace G S0 x2) (fun r_2 => ?_)
    refine qr_if_eq (t := 27) (n := 16) (dkX11_heard (i := 7) rfl) (by decide) rfl ?_ ?_
    · refine qr_iconst (n := 28) (-1) (dkX11_heard (i := 13) rfl) rfl (by decide) ?_
      exact qr_iret (dkX11_heard (i := 14) rfl) rfl rfl
    · refine qr_iload_n (n := 17) 3 (dkX11_heard (i := 8) rfl) rfl rfl ?_
      refine qr_iconst (n := 18) 0 (dkX11_heard (i := 9) rfl) rfl (by decide) ?_
      refine qr_sipush (n := 21) 300 (dkX11_heard (i := 10) rfl) rfl (by decide) ?_
      refine qr_csi (n := 24) [.int x3, .int 0, .int 300] (dkX11_heard (i := 11) rfl) rfl kvX11_176 rfl rfl (Nat.le_of_ble_eq_true rfl) rfl rfl (wX11_within G S0 x3 0 300) (fun r_3 => ?_)
      refine qr_if_ne (t := 29) (n := 27) (dkX11_heard (i := 12) rfl) (by decide) rfl ?_ ?_
      · refine qr_aload_n (n := 30) 0 (dkX11_heard (i := 15) rfl) rfl rfl ?_
        refine qr_geta (n := 33) 0 9 260 (dkX11_heard (i := 16) rfl) rfl lkO_0 rfl gnX11 (Nat.le_of_ble_eq_true rfl) kfX11_71 rfl ?_
        refine qr_iload_n (n := 34) 1 (dkX11_heard (i := 17) rfl) rfl rfl ?_
        refine qr_iload_n (n := 35) 2 (dkX11_heard (i := 18) rfl) rfl rfl ?_
        refine qr_iload_n (n := 36) 3 (dkX11_heard (i := 19) rfl) rfl rfl ?_
        refine qr_cvm (n := 39) 260 [.int x1, .int x2, .int x3] (dkX11_heard (i := 20) rfl) rfl kvX11_180 rfl rfl (Nat.le_of_ble_eq_true rfl) rfl rfl lkO_260 rfl (wX7_heardOf G S0 x1 x2 x3) (fun S_1 r_4 => ?_)
        exact qr_iret (dkX11_heard (i := 21) rfl) rfl rfl
      · refine qr_iconst (n := 28) (-1) (dkX11_heard (i := 13) rfl) rfl (by decide) ?_
        exact qr_iret (dkX11_heard (i := 14) rfl) rfl rfl
def tbX11_loud : List (Nat × Instr × Nat) := [(0, .aload_n 0, 1), (1, .iload_n 1, 1), (2, .invokevirtual 173, 3), (5, .ifCond .eq 14, 3), (8, .iload_n 2, 1), (9, .iconst 0, 1), (10, .sipush 300, 3), (13, .invokestatic 176, 3), (16, .ifCond .ne 5, 3), (19, .iconst (-1), 1), (20, .ireturn, 1), (21, .aload_n 0, 1), (22, .getfield 71, 3), (25, .iload_n 1, 1), (26, .invokevirtual 184, 3), (29, .aload_n 0, 1), (30, .getfield 71, 3), (33, .iload_n 2, 1), (34, .invokevirtual 187, 3), (37, .ireturn, 1)]
set_option maxRecDepth 20000 in
theorem daX11_loud : ∀ x ∈ tbX11_loud, decode cX11_loud x.1 = .ok x.2 := by decide +kernel
theorem dkX11_loud {i pc n : Nat} {ins : Instr} (h : tbX11_loud[i]? = some (pc, ins, n)) : decode cX11_loud pc = .ok (ins, n) := daX11_loud (pc, ins, n) (List.mem_of_getElem? h)
def fX11_loud (S0 : qv_St) (x1 : Int32) (x2 : Int32) : Option (qv_St × Int32) :=
  (fX11_isPlace S0 x1).bind fun r_1 =>
  if r_1 = 0 then
    some (S0, (-1))
  else
    (fX11_within x2 0 300).bind fun r_2 =>
    if r_2 = 0 then
      some (S0, (-1))
    else
      (fX7_face S0 x1).bind fun S_1 =>
      qv_cm (fX7_noiseAt S_1 x2) fun S_2 r_3 =>
      some (S_2, r_3)
set_option maxRecDepth 20000 in
set_option maxHeartbeats 4000000 in
theorem wX11_loud (G : qv_GT) (S0 : qv_St) (x1 : Int32) (x2 : Int32) : ∀ r, fX11_loud S0 x1 x2 = some r → Cn G Lk yX11_loud cX11_loud 3 (some .int) 6 [.ref (G.2.2.1 0), .int x1, .int x2] S0 (qe_m r) := by
  refine cn_of (own := RX11) (emb := qe_m) (lv := [(0, .ref (G.2.2.1 0)), (1, .int x1), (2, .int x2)]) rfl rfl (Nat.le_of_ble_eq_true rfl) rfl (fun X => ?_)
  unfold fX11_loud
  refine qr_aload_n (n := 1) 0 (dkX11_loud (i := 0) rfl) rfl rfl ?_
  refine qr_iload_n (n := 2) 1 (dkX11_loud (i := 1) rfl) rfl rfl ?_
  refine qr_cvi (n := 5) 0 [.int x1] (dkX11_loud (i := 2) rfl) rfl kvX11_173 rfl rfl (Nat.le_of_ble_eq_true rfl) rfl rfl lkO_0 rfl (wX11_isPlace G S0 x1) (fun r_1 => ?_)
  refine qr_if_eq (t := 19) (n := 8) (dkX11_loud (i := 3) rfl) (by decide) rfl ?_ ?_
  · refine qr_iconst (n := 20) (-1) (dkX11_loud (i := 9) rfl) rfl (by decide) ?_
    exact qr_iret (dkX11_loud (i := 10) rfl) rfl rfl
  · refine qr_iload_n (n := 9) 2 (dkX11_loud (i := 4) rfl) rfl rfl ?_
    refine qr_iconst (n := 10) 0 (dkX11_loud (i := 5) rfl) rfl (by decide) ?_
    refine qr_sipush (n := 13) 300 (dkX11_loud (i := 6) rfl) rfl (by decide) ?_
    refine qr_csi (n := 16) [.int x2, .int 0, .int 300] (dkX11_loud (i := 7) rfl) rfl kvX11_176 rfl rfl (Nat.le_of_ble_eq_true rfl) rfl rfl (wX11_within G S0 x2 0 300) (fun r_2 => ?_)
    refine qr_if_ne (t := 21) (n := 19) (dkX11_loud (i := 8) rfl) (by decide) rfl ?_ ?_
    · refine qr_aload_n (n := 22) 0 (dkX11_loud (i := 11) rfl) rfl rfl ?_
      refine qr_geta (n := 25) 0 9 260 (dkX11_loud (i := 12) rfl) rfl lkO_0 rfl gnX11 (Nat.le_of_ble_eq_true rfl) kfX11_71 rfl ?_
      refine qr_iload_n (n := 26) 1 (dkX11_loud (i := 13) rfl) rfl rfl ?_
      refine qr_cvu (n := 29) 260 [.int x1] (dkX11_loud (i := 14) rfl) rfl kvX11_184 rfl rfl (Nat.le_of_ble_eq_true rfl) rfl rfl lkO_260 rfl (wX7_face G S0 x1) (fun S_1 => ?_)
      refine qr_aload_n (n := 30) 0 (dkX11_loud (i := 15) rfl) rfl rfl ?_
      refine qr_geta (n := 33) 0 9 260 (dkX11_loud (i := 16) rfl) rfl lkO_0 rfl gnX11 (Nat.le_of_ble_eq_true rfl) kfX11_71 rfl ?_
      refine qr_iload_n (n := 34) 2 (dkX11_loud (i := 17) rfl) rfl rfl ?_
      refine qr_cvm (n := 37) 260 [.int x2] (dkX11_loud (i := 18) rfl) rfl kvX11_187 rfl rfl (Nat.le_of_ble_eq_true rfl) rfl rfl lkO_260 rfl (wX7_noiseAt G S_1 x2) (fun S_2 r_3 => ?_)
      exact qr_iret (dkX11_loud (i := 19) rfl) rfl rfl
    · refine qr_iconst (n := 20) (-1) (dkX11_loud (i := 9) rfl) rfl (by decide) ?_
      exact qr_iret (dkX11_loud (i := 10) rfl) rfl rfl
def tbX11_bears : List (Nat × Instr × Nat) := [(0, .aload_n 0, 1), (1, .iload_n 1, 1), (2, .invokevirtual 151, 3), (5, .ifCond .eq 22, 3), (8, .iload_n 2, 1), (9, .iconst 0, 1), (10, .aload_n 0, 1), (11, .getfield 35, 3), (14, .getfield 154, 3), (17, .iload_n 1, 1), (18, .iaload, 1), (19, .iconst 1, 1), (20, .isub, 1), (21, .invokestatic 176, 3), (24, .ifCond .ne 5, 3), (27, .iconst (-1), 1), (28, .ireturn, 1), (29, .aload_n 0, 1), (30, .getfield 62, 3), (33, .iload_n 1, 1), (34, .iload_n 2, 1), (35, .aload_n 0, 1), (36, .getfield 42, 3), (39, .getfield 190, 3), (42, .iload_n 2, 1), (43, .iadd, 1), (44, .invokevirtual 193, 3), (47, .ireturn, 1)]
set_option maxRecDepth 20000 in
theorem daX11_bears : ∀ x ∈ tbX11_bears, decode cX11_bears x.1 = .ok x.2 := by decide +kernel
theorem dkX11_bears {i pc n : Nat} {ins : Instr} (h : tbX11_bears[i]? = some (pc, ins, n)) : decode cX11_bears pc = .ok (ins, n) := daX11_bears (pc, ins, n) (List.mem_of_getElem? h)
def fX11_bears (S0 : qv_St) (x1 : Int32) (x2 : Int32) : Option (qv_St × Int32) :=
  (fX11_isShot S0 x1).bind fun r_1 =>
  if r_1 = 0 then
    some (S0, (-1))
  else
    qv_ck x1 6 <|
    (fX11_within x2 0 ((S0.1 17 (Int32.toNatClampNeg x1)) - 1)).bind fun r_2 =>
    if r_2 = 0 then
      some (S0, (-1))
    else
      qv_cm (fX0_borne S0 x1 x2 ((S0.1 31 0) + x2)) fun S_1 r_3 =>
      some (S_1, r_3)
set_option maxRecDepth 20000 in
set_option maxHeartbeats 4000000 in
theorem wX11_bears (G : qv_GT) (S0 : qv_St) (x1 : Int32) (x2 : Int32) : ∀ r, fX11_bears S0 x1 x2 = some r → Cn G Lk yX11_bears cX11_bears 3 (some .int) 3 [.ref (G.2.2.1 0), .int x1, .int x2] S0 (qe_m r) := by
  refine cn_of (own := RX11) (emb := qe_m) (lv := [(0, .ref (G.2.2.1 0)), (1, .int x1), (2, .int x2)]) rfl rfl (Nat.le_of_ble_eq_true rfl) rfl (fun X => ?_)
  unfold fX11_bears
  refine qr_aload_n (n := 1) 0 (dkX11_bears (i := 0) rfl) rfl rfl ?_
  refine qr_iload_n (n := 2) 1 (dkX11_bears (i := 1) rfl) rfl rfl ?_
  refine qr_cvi (n := 5) 0 [.int x1] (dkX11_bears (i := 2) rfl) rfl kvX11_151 rfl rfl (Nat.le_of_ble_eq_true rfl) rfl rfl lkO_0 rfl (wX11_isShot G S0 x1) (fun r_1 => ?_)
  refine qr_if_eq (t := 27) (n := 8) (dkX11_bears (i := 3) rfl) (by decide) rfl ?_ ?_
  · refine qr_iconst (n := 28) (-1) (dkX11_bears (i := 15) rfl) rfl (by decide) ?_
    exact qr_iret (dkX11_bears (i := 16) rfl) rfl rfl
  · refine qr_iload_n (n := 9) 2 (dkX11_bears (i := 4) rfl) rfl rfl ?_
    refine qr_iconst (n := 10) 0 (dkX11_bears (i := 5) rfl) rfl (by decide) ?_
    refine qr_aload_n (n := 11) 0 (dkX11_bears (i := 6) rfl) rfl rfl ?_
    refine qr_geta (n := 14) 0 3 9 (dkX11_bears (i := 7) rfl) rfl lkO_0 rfl gnX11 (Nat.le_of_ble_eq_true rfl) kfX11_35 rfl ?_
    refine qr_geta (n := 17) 9 10 17 (dkX11_bears (i := 8) rfl) rfl lkO_9 rfl gnX5 (Nat.le_of_ble_eq_true rfl) kfX11_154 rfl ?_
    refine qr_iload_n (n := 18) 1 (dkX11_bears (i := 9) rfl) rfl rfl ?_
    refine qr_iald (n := 19) 17 6 (dkX11_bears (i := 10) rfl) rfl lkA_17 ?_
    refine qr_iconst (n := 20) 1 (dkX11_bears (i := 11) rfl) rfl (by decide) ?_
    refine qr_isub (n := 21) (dkX11_bears (i := 12) rfl) rfl ?_
    refine qr_csi (n := 24) [.int x2, .int 0, .int ((S0.1 17 (Int32.toNatClampNeg x1)) - 1)] (dkX11_bears (i := 13) rfl) rfl kvX11_176 rfl rfl (Nat.le_of_ble_eq_true rfl) rfl rfl (wX11_within G S0 x2 0 ((S0.1 17 (Int32.toNatClampNeg x1)) - 1)) (fun r_2 => ?_)
    refine qr_if_ne (t := 29) (n := 27) (dkX11_bears (i := 14) rfl) (by decide) rfl ?_ ?_
    · refine qr_aload_n (n := 30) 0 (dkX11_bears (i := 17) rfl) rfl rfl ?_
      refine qr_geta (n := 33) 0 8 254 (dkX11_bears (i := 18) rfl) rfl lkO_0 rfl gnX11 (Nat.le_of_ble_eq_true rfl) kfX11_62 rfl ?_
      refine qr_iload_n (n := 34) 1 (dkX11_bears (i := 19) rfl) rfl rfl ?_
      refine qr_iload_n (n := 35) 2 (dkX11_bears (i := 20) rfl) rfl rfl ?_
      refine qr_aload_n (n := 36) 0 (dkX11_bears (i := 21) rfl) rfl rfl ?_
      refine qr_geta (n := 39) 0 4 31 (dkX11_bears (i := 22) rfl) rfl lkO_0 rfl gnX11 (Nat.le_of_ble_eq_true rfl) kfX11_42 rfl ?_
      refine qr_geti (n := 42) 31 0 (dkX11_bears (i := 23) rfl) rfl lkO_31 rfl gnX6 (Nat.le_of_ble_eq_true rfl) kfX11_190 rfl ?_
      refine qr_iload_n (n := 43) 2 (dkX11_bears (i := 24) rfl) rfl rfl ?_
      refine qr_iadd (n := 44) (dkX11_bears (i := 25) rfl) rfl ?_
      refine qr_cvm (n := 47) 254 [.int x1, .int x2, .int ((S0.1 31 0) + x2)] (dkX11_bears (i := 26) rfl) rfl kvX11_193 rfl rfl (Nat.le_of_ble_eq_true rfl) rfl rfl lkO_254 rfl (wX0_borne G S0 x1 x2 ((S0.1 31 0) + x2)) (fun S_1 r_3 => ?_)
      exact qr_iret (dkX11_bears (i := 27) rfl) rfl rfl
    · refine qr_iconst (n := 28) (-1) (dkX11_bears (i := 15) rfl) rfl (by decide) ?_
      exact qr_iret (dkX11_bears (i := 16) rfl) rfl rfl
def tbX11_beforeChange : List (Nat × Instr × Nat) := [(0, .aload_n 0, 1), (1, .getfield 49, 3), (4, .aload_n 0, 1), (5, .getfield 42, 3), (8, .invokevirtual 350, 3), (11, .aload_n 0, 1), (12, .getfield 71, 3), (15, .invokevirtual 240, 3), (18, .return_, 1)]
set_option maxRecDepth 20000 in
theorem daX11_beforeChange : ∀ x ∈ tbX11_beforeChange, decode cX11_beforeChange x.1 = .ok x.2 := by decide +kernel
theorem dkX11_beforeChange {i pc n : Nat} {ins : Instr} (h : tbX11_beforeChange[i]? = some (pc, ins, n)) : decode cX11_beforeChange pc = .ok (ins, n) := daX11_beforeChange (pc, ins, n) (List.mem_of_getElem? h)
def fX11_beforeChange (S0 : qv_St) : Option qv_St :=
  (fX1_push S0).bind fun S_1 =>
  (fX7_drop S_1).bind fun S_2 =>
  some S_2
set_option maxRecDepth 20000 in
set_option maxHeartbeats 4000000 in
theorem wX11_beforeChange (G : qv_GT) (S0 : qv_St) : ∀ r, fX11_beforeChange S0 = some r → Cn G Lk yX11_beforeChange cX11_beforeChange 1 none 4 [.ref (G.2.2.1 0)] S0 (qe_u r) := by
  refine cn_of (own := RX11) (emb := qe_u) (lv := [(0, .ref (G.2.2.1 0))]) rfl rfl (Nat.le_of_ble_eq_true rfl) rfl (fun X => ?_)
  unfold fX11_beforeChange
  refine qr_aload_n (n := 1) 0 (dkX11_beforeChange (i := 0) rfl) rfl rfl ?_
  refine qr_geta (n := 4) 0 5 36 (dkX11_beforeChange (i := 1) rfl) rfl lkO_0 rfl gnX11 (Nat.le_of_ble_eq_true rfl) kfX11_49 rfl ?_
  refine qr_aload_n (n := 5) 0 (dkX11_beforeChange (i := 2) rfl) rfl rfl ?_
  refine qr_geta (n := 8) 0 4 31 (dkX11_beforeChange (i := 3) rfl) rfl lkO_0 rfl gnX11 (Nat.le_of_ble_eq_true rfl) kfX11_42 rfl ?_
  refine qr_cvu (n := 11) 36 [.ref (G.2.2.1 31)] (dkX11_beforeChange (i := 4) rfl) rfl kvX11_350 rfl rfl (Nat.le_of_ble_eq_true rfl) rfl rfl lkO_36 rfl (wX1_push G S0) (fun S_1 => ?_)
  refine qr_aload_n (n := 12) 0 (dkX11_beforeChange (i := 5) rfl) rfl rfl ?_
  refine qr_geta (n := 15) 0 9 260 (dkX11_beforeChange (i := 6) rfl) rfl lkO_0 rfl gnX11 (Nat.le_of_ble_eq_true rfl) kfX11_71 rfl ?_
  refine qr_cvu (n := 18) 260 [] (dkX11_beforeChange (i := 7) rfl) rfl kvX11_240 rfl rfl (Nat.le_of_ble_eq_true rfl) rfl rfl lkO_260 rfl (wX7_drop G S_1) (fun S_2 => ?_)
  exact qr_vret (dkX11_beforeChange (i := 8) rfl) rfl rfl
def tbX11_take : List (Nat × Instr × Nat) := [(0, .aload_n 0, 1), (1, .iload_n 1, 1), (2, .invokevirtual 151, 3), (5, .ifCond .ne 5, 3), (8, .iconst (-1), 1), (9, .ireturn, 1), (10, .aload_n 0, 1), (11, .getfield 35, 3), (14, .getfield 196, 3), (17, .ifCond .ne 6, 3), (20, .bipush (-2), 2), (22, .ireturn, 1), (23, .aload_n 0, 1), (24, .getfield 71, 3), (27, .aload_n 0, 1), (28, .getfield 42, 3), (31, .getfield 199, 3), (34, .invokevirtual 184, 3), (37, .aload_n 0, 1), (38, .getfield 71, 3), (41, .iload_n 1, 1), (42, .iconst 0, 1), (43, .invokevirtual 202, 3), (46, .istore_n 2, 1), (47, .aload_n 0, 1), (48, .invokevirtual 206, 3), (51, .aload_n 0, 1), (52, .getfield 42, 3), (55, .iload_n 1, 1), (56, .iload_n 2, 1), (57, .aload_n 0, 1), (58, .getfield 35, 3), (61, .iload_n 1, 1), (62, .invokevirtual 209, 3), (65, .invokevirtual 212, 3), (68, .aload_n 0, 1), (69, .getfield 42, 3), (72, .aload_n 0, 1), (73, .getfield 35, 3), (76, .getfield 154, 3), (79, .iload_n 1, 1), (80, .iaload, 1), (81, .invokevirtual 216, 3), (84, .iload_n 2, 1), (85, .ireturn, 1)]
set_option maxRecDepth 20000 in
theorem daX11_take : ∀ x ∈ tbX11_take, decode cX11_take x.1 = .ok x.2 := by decide +kernel
theorem dkX11_take {i pc n : Nat} {ins : Instr} (h : tbX11_take[i]? = some (pc, ins, n)) : decode cX11_take pc = .ok (ins, n) := daX11_take (pc, ins, n) (List.mem_of_getElem? h)
def fX11_take (S0 : qv_St) (x1 : Int32) : Option (qv_St × Int32) :=
  (fX11_isShot S0 x1).bind fun r_1 =>
  if r_1 = 0 then
    some (S0, (-1))
  else
    if (S0.1 9 1) = 0 then
      some (S0, (-2))
    else
      (fX7_face S0 (S0.1 31 1)).bind fun S_1 =>
      qv_cm (fX7_clearSeconds S_1 x1 0) fun S_2 r_2 =>
      (fX11_beforeChange S_2).bind fun S_3 =>
      (fX5_allSeconds S_3 x1).bind fun r_3 =>
      (fX6_addTake S_3 31 x1 r_2 r_3).bind fun S_4 =>
      qv_ck x1 6 <|
      (fX6_stand S_4 31 (S_4.1 17 (Int32.toNatClampNeg x1))).bind fun S_5 =>
      some (S_5, r_2)
set_option maxRecDepth 20000 in
set_option maxHeartbeats 4000000 in
theorem wX11_take (G : qv_GT) (S0 : qv_St) (x1 : Int32) : ∀ r, fX11_take S0 x1 = some r → Cn G Lk yX11_take cX11_take 3 (some .int) 7 [.ref (G.2.2.1 0), .int x1] S0 (qe_m r) := by
  refine cn_of (own := RX11) (emb := qe_m) (lv := [(0, .ref (G.2.2.1 0)), (1, .int x1)]) rfl rfl (Nat.le_of_ble_eq_true rfl) rfl (fun X => ?_)
  unfold fX11_take
  refine qr_aload_n (n := 1) 0 (dkX11_take (i := 0) rfl) rfl rfl ?_
  refine qr_iload_n (n := 2) 1 (dkX11_take (i := 1) rfl) rfl rfl ?_
  refine qr_cvi (n := 5) 0 [.int x1] (dkX11_take (i := 2) rfl) rfl kvX11_151 rfl rfl (Nat.le_of_ble_eq_true rfl) rfl rfl lkO_0 rfl (wX11_isShot G S0 x1) (fun r_1 => ?_)
  refine qr_if_ne (t := 10) (n := 8) (dkX11_take (i := 3) rfl) (by decide) rfl ?_ ?_
  · refine qr_aload_n (n := 11) 0 (dkX11_take (i := 6) rfl) rfl rfl ?_
    refine qr_geta (n := 14) 0 3 9 (dkX11_take (i := 7) rfl) rfl lkO_0 rfl gnX11 (Nat.le_of_ble_eq_true rfl) kfX11_35 rfl ?_
    refine qr_geti (n := 17) 9 1 (dkX11_take (i := 8) rfl) rfl lkO_9 rfl gnX5 (Nat.le_of_ble_eq_true rfl) kfX11_196 rfl ?_
    refine qr_if_ne (t := 23) (n := 20) (dkX11_take (i := 9) rfl) (by decide) rfl ?_ ?_
    · refine qr_aload_n (n := 24) 0 (dkX11_take (i := 12) rfl) rfl rfl ?_
      refine qr_geta (n := 27) 0 9 260 (dkX11_take (i := 13) rfl) rfl lkO_0 rfl gnX11 (Nat.le_of_ble_eq_true rfl) kfX11_71 rfl ?_
      refine qr_aload_n (n := 28) 0 (dkX11_take (i := 14) rfl) rfl rfl ?_
      refine qr_geta (n := 31) 0 4 31 (dkX11_take (i := 15) rfl) rfl lkO_0 rfl gnX11 (Nat.le_of_ble_eq_true rfl) kfX11_42 rfl ?_
      refine qr_geti (n := 34) 31 1 (dkX11_take (i := 16) rfl) rfl lkO_31 rfl gnX6 (Nat.le_of_ble_eq_true rfl) kfX11_199 rfl ?_
      refine qr_cvu (n := 37) 260 [.int (S0.1 31 1)] (dkX11_take (i := 17) rfl) rfl kvX11_184 rfl rfl (Nat.le_of_ble_eq_true rfl) rfl rfl lkO_260 rfl (wX7_face G S0 (S0.1 31 1)) (fun S_1 => ?_)
      refine qr_aload_n (n := 38) 0 (dkX11_take (i := 18) rfl) rfl rfl ?_
      refine qr_geta (n := 41) 0 9 260 (dkX11_take (i := 19) rfl) rfl lkO_0 rfl gnX11 (Nat.le_of_ble_eq_true rfl) kfX11_71 rfl ?_
      refine qr_iload_n (n := 42) 1 (dkX11_take (i := 20) rfl) rfl rfl ?_
      refine qr_iconst (n := 43) 0 (dkX11_take (i := 21) rfl) rfl (by decide) ?_
      refine qr_cvm (n := 46) 260 [.int x1, .int 0] (dkX11_take (i := 22) rfl) rfl kvX11_202 rfl rfl (Nat.le_of_ble_eq_true rfl) rfl rfl lkO_260 rfl (wX7_clearSeconds G S_1 x1 0) (fun S_2 r_2 => ?_)
      refine qr_istore_n (n := 47) (lv2 := [(0, .ref (G.2.2.1 0)), (1, .int x1), (2, .int r_2)]) [1, 2, 0] (dkX11_take (i := 23) rfl) rfl rfl (by decide) rfl ?_
      refine qr_aload_n (n := 48) 0 (dkX11_take (i := 24) rfl) rfl rfl ?_
      refine qr_cvu (n := 51) 0 [] (dkX11_take (i := 25) rfl) rfl kvX11_206 rfl rfl (Nat.le_of_ble_eq_true rfl) rfl rfl lkO_0 rfl (wX11_beforeChange G S_2) (fun S_3 => ?_)
      refine qr_aload_n (n := 52) 0 (dkX11_take (i := 26) rfl) rfl rfl ?_
      refine qr_geta (n := 55) 0 4 31 (dkX11_take (i := 27) rfl) rfl lkO_0 rfl gnX11 (Nat.le_of_ble_eq_true rfl) kfX11_42 rfl ?_
      refine qr_iload_n (n := 56) 1 (dkX11_take (i := 28) rfl) rfl rfl ?_
      refine qr_iload_n (n := 57) 2 (dkX11_take (i := 29) rfl) rfl rfl ?_
      refine qr_aload_n (n := 58) 0 (dkX11_take (i := 30) rfl) rfl rfl ?_
      refine qr_geta (n := 61) 0 3 9 (dkX11_take (i := 31) rfl) rfl lkO_0 rfl gnX11 (Nat.le_of_ble_eq_true rfl) kfX11_35 rfl ?_
      refine qr_iload_n (n := 62) 1 (dkX11_take (i := 32) rfl) rfl rfl ?_
      refine qr_cvi (n := 65) 9 [.int x1] (dkX11_take (i := 33) rfl) rfl kvX11_209 rfl rfl (Nat.le_of_ble_eq_true rfl) rfl rfl lkO_9 rfl (wX5_allSeconds G S_3 x1) (fun r_3 => ?_)
      refine qr_cvu (n := 68) 31 [.int x1, .int r_2, .int r_3] (dkX11_take (i := 34) rfl) rfl kvX11_212 rfl rfl (Nat.le_of_ble_eq_true rfl) rfl rfl lkO_31 rfl (wX6_addTake G S_3 31 x1 r_2 r_3 isS_31) (fun S_4 => ?_)
      refine qr_aload_n (n := 69) 0 (dkX11_take (i := 35) rfl) rfl rfl ?_
      refine qr_geta (n := 72) 0 4 31 (dkX11_take (i := 36) rfl) rfl lkO_0 rfl gnX11 (Nat.le_of_ble_eq_true rfl) kfX11_42 rfl ?_
      refine qr_aload_n (n := 73) 0 (dkX11_take (i := 37) rfl) rfl rfl ?_
      refine qr_geta (n := 76) 0 3 9 (dkX11_take (i := 38) rfl) rfl lkO_0 rfl gnX11 (Nat.le_of_ble_eq_true rfl) kfX11_35 rfl ?_
      refine qr_geta (n := 79) 9 10 17 (dkX11_take (i := 39) rfl) rfl lkO_9 rfl gnX5 (Nat.le_of_ble_eq_true rfl) kfX11_154 rfl ?_
      refine qr_iload_n (n := 80) 1 (dkX11_take (i := 40) rfl) rfl rfl ?_
      refine qr_iald (n := 81) 17 6 (dkX11_take (i := 41) rfl) rfl lkA_17 ?_
      refine qr_cvu (n := 84) 31 [.int (S_4.1 17 (Int32.toNatClampNeg x1))] (dkX11_take (i := 42) rfl) rfl kvX11_216 rfl rfl (Nat.le_of_ble_eq_true rfl) rfl rfl lkO_31 rfl (wX6_stand G S_4 31 (S_4.1 17 (Int32.toNatClampNeg x1)) isS_31) (fun S_5 => ?_)
      refine qr_iload_n (n := 85) 2 (dkX11_take (i := 43) rfl) rfl rfl ?_
      exact qr_iret (dkX11_take (i := 44) rfl) rfl rfl
    · refine qr_bipush (n := 22) (-2) (dkX11_take (i := 10) rfl) rfl (by decide) ?_
      exact qr_iret (dkX11_take (i := 11) rfl) rfl rfl
  · refine qr_iconst (n := 9) (-1) (dkX11_take (i := 4) rfl) rfl (by decide) ?_
    exact qr_iret (dkX11_take (i := 5) rfl) rfl rfl
def tbX11_waits : List (Nat × Instr × Nat) := [(0, .iload_n 1, 1), (1, .iconst 0, 1), (2, .sipush 300, 3), (5, .invokestatic 176, 3), (8, .ifCond .ne 5, 3), (11, .iconst (-1), 1), (12, .ireturn, 1), (13, .iload_n 1, 1), (14, .ifCond .le 15, 3), (17, .aload_n 0, 1), (18, .invokevirtual 206, 3), (21, .aload_n 0, 1), (22, .getfield 42, 3), (25, .iload_n 1, 1), (26, .invokevirtual 216, 3), (29, .aload_n 0, 1), (30, .getfield 42, 3), (33, .getfield 190, 3), (36, .ireturn, 1)]
set_option maxRecDepth 20000 in
theorem daX11_waits : ∀ x ∈ tbX11_waits, decode cX11_waits x.1 = .ok x.2 := by decide +kernel
theorem dkX11_waits {i pc n : Nat} {ins : Instr} (h : tbX11_waits[i]? = some (pc, ins, n)) : decode cX11_waits pc = .ok (ins, n) := daX11_waits (pc, ins, n) (List.mem_of_getElem? h)
def fX11_waits (S0 : qv_St) (x1 : Int32) : Option (qv_St × Int32) :=
  (fX11_within x1 0 300).bind fun r_1 =>
  if r_1 = 0 then
    some (S0, (-1))
  else
    if x1 ≤ 0 then
      some (S0, (S0.1 31 0))
    else
      (fX11_beforeChange S0).bind fun S_1 =>
      (fX6_stand S_1 31 x1).bind fun S_2 =>
      some (S_2, (S_2.1 31 0))
set_option maxRecDepth 20000 in
set_option maxHeartbeats 4000000 in
theorem wX11_waits (G : qv_GT) (S0 : qv_St) (x1 : Int32) : ∀ r, fX11_waits S0 x1 = some r → Cn G Lk yX11_waits cX11_waits 2 (some .int) 5 [.ref (G.2.2.1 0), .int x1] S0 (qe_m r) := by
  refine cn_of (own := RX11) (emb := qe_m) (lv := [(0, .ref (G.2.2.1 0)), (1, .int x1)]) rfl rfl (Nat.le_of_ble_eq_true rfl) rfl (fun X => ?_)
  unfold fX11_waits
  refine qr_iload_n (n := 1) 1 (dkX11_waits (i := 0) rfl) rfl rfl ?_
  refine qr_iconst (n := 2) 0 (dkX11_waits (i := 1) rfl) rfl (by decide) ?_
  refine qr_sipush (n := 5) 300 (dkX11_waits (i := 2) rfl) rfl (by decide) ?_
  refine qr_csi (n := 8) [.int x1, .int 0, .int 300] (dkX11_waits (i := 3) rfl) rfl kvX11_176 rfl rfl (Nat.le_of_ble_eq_true rfl) rfl rfl (wX11_within G S0 x1 0 300) (fun r_1 => ?_)
  refine qr_if_ne (t := 13) (n := 11) (dkX11_waits (i := 4) rfl) (by decide) rfl ?_ ?_
  · refine qr_iload_n (n := 14) 1 (dkX11_waits (i := 7) rfl) rfl rfl ?_
    refine qr_if_le (t := 29) (n := 17) (dkX11_waits (i := 8) rfl) (by decide) rfl ?_ ?_
    · refine qr_aload_n (n := 30) 0 (dkX11_waits (i := 15) rfl) rfl rfl ?_
      refine qr_geta (n := 33) 0 4 31 (dkX11_waits (i := 16) rfl) rfl lkO_0 rfl gnX11 (Nat.le_of_ble_eq_true rfl) kfX11_42 rfl ?_
      refine qr_geti (n := 36) 31 0 (dkX11_waits (i := 17) rfl) rfl lkO_31 rfl gnX6 (Nat.le_of_ble_eq_true rfl) kfX11_190 rfl ?_
      exact qr_iret (dkX11_waits (i := 18) rfl) rfl rfl
    · refine qr_aload_n (n := 18) 0 (dkX11_waits (i := 9) rfl) rfl rfl ?_
      refine qr_cvu (n := 21) 0 [] (dkX11_waits (i := 10) rfl) rfl kvX11_206 rfl rfl (Nat.le_of_ble_eq_true rfl) rfl rfl lkO_0 rfl (wX11_beforeChange G S0) (fun S_1 => ?_)
      refine qr_aload_n (n := 22) 0 (dkX11_waits (i := 11) rfl) rfl rfl ?_
      refine qr_geta (n := 25) 0 4 31 (dkX11_waits (i := 12) rfl) rfl lkO_0 rfl gnX11 (Nat.le_of_ble_eq_true rfl) kfX11_42 rfl ?_
      refine qr_iload_n (n := 26) 1 (dkX11_waits (i := 13) rfl) rfl rfl ?_
      refine qr_cvu (n := 29) 31 [.int x1] (dkX11_waits (i := 14) rfl) rfl kvX11_216 rfl rfl (Nat.le_of_ble_eq_true rfl) rfl rfl lkO_31 rfl (wX6_stand G S_1 31 x1 isS_31) (fun S_2 => ?_)
      refine qr_aload_n (n := 30) 0 (dkX11_waits (i := 15) rfl) rfl rfl ?_
      refine qr_geta (n := 33) 0 4 31 (dkX11_waits (i := 16) rfl) rfl lkO_0 rfl gnX11 (Nat.le_of_ble_eq_true rfl) kfX11_42 rfl ?_
      refine qr_geti (n := 36) 31 0 (dkX11_waits (i := 17) rfl) rfl lkO_31 rfl gnX6 (Nat.le_of_ble_eq_true rfl) kfX11_190 rfl ?_
      exact qr_iret (dkX11_waits (i := 18) rfl) rfl rfl
  · refine qr_iconst (n := 12) (-1) (dkX11_waits (i := 5) rfl) rfl (by decide) ?_
    exact qr_iret (dkX11_waits (i := 6) rfl) rfl rfl
def tbX11_rests : List (Nat × Instr × Nat) := [(0, .iload_n 1, 1), (1, .iconst 1, 1), (2, .sipush 300, 3), (5, .invokestatic 176, 3), (8, .ifCond .ne 5, 3), (11, .iconst (-1), 1), (12, .ireturn, 1), (13, .aload_n 0, 1), (14, .invokevirtual 206, 3), (17, .aload_n 0, 1), (18, .getfield 42, 3), (21, .dup, 1), (22, .getfield 190, 3), (25, .iload_n 1, 1), (26, .iadd, 1), (27, .putfield 190, 3), (30, .aload_n 0, 1), (31, .getfield 42, 3), (34, .iconst 0, 1), (35, .putfield 219, 3), (38, .aload_n 0, 1), (39, .getfield 42, 3), (42, .getfield 190, 3), (45, .ireturn, 1)]
set_option maxRecDepth 20000 in
theorem daX11_rests : ∀ x ∈ tbX11_rests, decode cX11_rests x.1 = .ok x.2 := by decide +kernel
theorem dkX11_rests {i pc n : Nat} {ins : Instr} (h : tbX11_rests[i]? = some (pc, ins, n)) : decode cX11_rests pc = .ok (ins, n) := daX11_rests (pc, ins, n) (List.mem_of_getElem? h)
def fX11_rests (S0 : qv_St) (x1 : Int32) : Option (qv_St × Int32) :=
  (fX11_within x1 1 300).bind fun r_1 =>
  if r_1 = 0 then
    some (S0, (-1))
  else
    (fX11_beforeChange S0).bind fun S_1 =>
    qv_b (qv_si S_1 31 0 ((S_1.1 31 0) + x1)) fun S_2 =>
    qv_b (qv_si S_2 31 2 0) fun S_3 =>
    some (S_3, (S_3.1 31 0))
set_option maxRecDepth 20000 in
set_option maxHeartbeats 4000000 in
theorem wX11_rests (G : qv_GT) (S0 : qv_St) (x1 : Int32) : ∀ r, fX11_rests S0 x1 = some r → Cn G Lk yX11_rests cX11_rests 2 (some .int) 5 [.ref (G.2.2.1 0), .int x1] S0 (qe_m r) := by
  refine cn_of (own := RX11) (emb := qe_m) (lv := [(0, .ref (G.2.2.1 0)), (1, .int x1)]) rfl rfl (Nat.le_of_ble_eq_true rfl) rfl (fun X => ?_)
  unfold fX11_rests
  refine qr_iload_n (n := 1) 1 (dkX11_rests (i := 0) rfl) rfl rfl ?_
  refine qr_iconst (n := 2) 1 (dkX11_rests (i := 1) rfl) rfl (by decide) ?_
  refine qr_sipush (n := 5) 300 (dkX11_rests (i := 2) rfl) rfl (by decide) ?_
  refine qr_csi (n := 8) [.int x1, .int 1, .int 300] (dkX11_rests (i := 3) rfl) rfl kvX11_176 rfl rfl (Nat.le_of_ble_eq_true rfl) rfl rfl (wX11_within G S0 x1 1 300) (fun r_1 => ?_)
  refine qr_if_ne (t := 13) (n := 11) (dkX11_rests (i := 4) rfl) (by decide) rfl ?_ ?_
  · refine qr_aload_n (n := 14) 0 (dkX11_rests (i := 7) rfl) rfl rfl ?_
    refine qr_cvu (n := 17) 0 [] (dkX11_rests (i := 8) rfl) rfl kvX11_206 rfl rfl (Nat.le_of_ble_eq_true rfl) rfl rfl lkO_0 rfl (wX11_beforeChange G S0) (fun S_1 => ?_)
    refine qr_aload_n (n := 18) 0 (dkX11_rests (i := 9) rfl) rfl rfl ?_
    refine qr_geta (n := 21) 0 4 31 (dkX11_rests (i := 10) rfl) rfl lkO_0 rfl gnX11 (Nat.le_of_ble_eq_true rfl) kfX11_42 rfl ?_
    refine qr_dup (n := 22) (dkX11_rests (i := 11) rfl) rfl rfl ?_
    refine qr_geti (n := 25) 31 0 (dkX11_rests (i := 12) rfl) rfl lkO_31 rfl gnX6 (Nat.le_of_ble_eq_true rfl) kfX11_190 rfl ?_
    refine qr_iload_n (n := 26) 1 (dkX11_rests (i := 13) rfl) rfl rfl ?_
    refine qr_iadd (n := 27) (dkX11_rests (i := 14) rfl) rfl ?_
    refine qr_puti (n := 30) 31 0 (dkX11_rests (i := 15) rfl) rfl lkO_31 rfl gnX6 (Nat.le_of_ble_eq_true rfl) kfX11_190 rfl tyX6_ok nmX6 rfl rfl (fun S_2 => ?_)
    refine qr_aload_n (n := 31) 0 (dkX11_rests (i := 16) rfl) rfl rfl ?_
    refine qr_geta (n := 34) 0 4 31 (dkX11_rests (i := 17) rfl) rfl lkO_0 rfl gnX11 (Nat.le_of_ble_eq_true rfl) kfX11_42 rfl ?_
    refine qr_iconst (n := 35) 0 (dkX11_rests (i := 18) rfl) rfl (by decide) ?_
    refine qr_puti (n := 38) 31 2 (dkX11_rests (i := 19) rfl) rfl lkO_31 rfl gnX6 (Nat.le_of_ble_eq_true rfl) kfX11_219 rfl tyX6_ok nmX6 rfl rfl (fun S_3 => ?_)
    refine qr_aload_n (n := 39) 0 (dkX11_rests (i := 20) rfl) rfl rfl ?_
    refine qr_geta (n := 42) 0 4 31 (dkX11_rests (i := 21) rfl) rfl lkO_0 rfl gnX11 (Nat.le_of_ble_eq_true rfl) kfX11_42 rfl ?_
    refine qr_geti (n := 45) 31 0 (dkX11_rests (i := 22) rfl) rfl lkO_31 rfl gnX6 (Nat.le_of_ble_eq_true rfl) kfX11_190 rfl ?_
    exact qr_iret (dkX11_rests (i := 23) rfl) rfl rfl
  · refine qr_iconst (n := 12) (-1) (dkX11_rests (i := 5) rfl) rfl (by decide) ?_
    exact qr_iret (dkX11_rests (i := 6) rfl) rfl rfl
def tbX11_moves : List (Nat × Instr × Nat) := [(0, .aload_n 0, 1), (1, .iload_n 1, 1), (2, .invokevirtual 173, 3), (5, .ifCond .ne 5, 3), (8, .iconst (-1), 1), (9, .ireturn, 1), (10, .iload_n 1, 1), (11, .aload_n 0, 1), (12, .getfield 42, 3), (15, .getfield 199, 3), (18, .if_icmp .ne 6, 3), (21, .bipush (-2), 2), (23, .ireturn, 1), (24, .aload_n 0, 1), (25, .invokevirtual 206, 3), (28, .aload_n 0, 1), (29, .getfield 42, 3), (32, .iload_n 1, 1), (33, .putfield 199, 3), (36, .aload_n 0, 1), (37, .getfield 42, 3), (40, .aload_n 0, 1), (41, .getfield 35, 3), (44, .getfield 222, 3), (47, .invokevirtual 216, 3), (50, .aload_n 0, 1), (51, .getfield 42, 3), (54, .getfield 190, 3), (57, .ireturn, 1)]
set_option maxRecDepth 20000 in
theorem daX11_moves : ∀ x ∈ tbX11_moves, decode cX11_moves x.1 = .ok x.2 := by decide +kernel
theorem dkX11_moves {i pc n : Nat} {ins : Instr} (h : tbX11_moves[i]? = some (pc, ins, n)) : decode cX11_moves pc = .ok (ins, n) := daX11_moves (pc, ins, n) (List.mem_of_getElem? h)
def fX11_moves (S0 : qv_St) (x1 : Int32) : Option (qv_St × Int32) :=
  (fX11_isPlace S0 x1).bind fun r_1 =>
  if r_1 = 0 then
    some (S0, (-1))
  else
    if x1 = (S0.1 31 1) then
      some (S0, (-2))
    else
      (fX11_beforeChange S0).bind fun S_1 =>
      qv_b (qv_si S_1 31 1 x1) fun S_2 =>
      (fX6_stand S_2 31 (S_2.1 9 15)).bind fun S_3 =>
      some (S_3, (S_3.1 31 0))
set_option maxRecDepth 20000 in
set_option maxHeartbeats 4000000 in
theorem wX11_moves (G : qv_GT) (S0 : qv_St) (x1 : Int32) : ∀ r, fX11_moves S0 x1 = some r → Cn G Lk yX11_moves cX11_moves 2 (some .int) 5 [.ref (G.2.2.1 0), .int x1] S0 (qe_m r) := by
  refine cn_of (own := RX11) (emb := qe_m) (lv := [(0, .ref (G.2.2.1 0)), (1, .int x1)]) rfl rfl (Nat.le_of_ble_eq_true rfl) rfl (fun X => ?_)
  unfold fX11_moves
  refine qr_aload_n (n := 1) 0 (dkX11_moves (i := 0) rfl) rfl rfl ?_
  refine qr_iload_n (n := 2) 1 (dkX11_moves (i := 1) rfl) rfl rfl ?_
  refine qr_cvi (n := 5) 0 [.int x1] (dkX11_moves (i := 2) rfl) rfl kvX11_173 rfl rfl (Nat.le_of_ble_eq_true rfl) rfl rfl lkO_0 rfl (wX11_isPlace G S0 x1) (fun r_1 => ?_)
  refine qr_if_ne (t := 10) (n := 8) (dkX11_moves (i := 3) rfl) (by decide) rfl ?_ ?_
  · refine qr_iload_n (n := 11) 1 (dkX11_moves (i := 6) rfl) rfl rfl ?_
    refine qr_aload_n (n := 12) 0 (dkX11_moves (i := 7) rfl) rfl rfl ?_
    refine qr_geta (n := 15) 0 4 31 (dkX11_moves (i := 8) rfl) rfl lkO_0 rfl gnX11 (Nat.le_of_ble_eq_true rfl) kfX11_42 rfl ?_
    refine qr_geti (n := 18) 31 1 (dkX11_moves (i := 9) rfl) rfl lkO_31 rfl gnX6 (Nat.le_of_ble_eq_true rfl) kfX11_199 rfl ?_
    refine qr_icmp_ne (t := 24) (n := 21) (dkX11_moves (i := 10) rfl) (by decide) rfl ?_ ?_
    · refine qr_aload_n (n := 25) 0 (dkX11_moves (i := 13) rfl) rfl rfl ?_
      refine qr_cvu (n := 28) 0 [] (dkX11_moves (i := 14) rfl) rfl kvX11_206 rfl rfl (Nat.le_of_ble_eq_true rfl) rfl rfl lkO_0 rfl (wX11_beforeChange G S0) (fun S_1 => ?_)
      refine qr_aload_n (n := 29) 0 (dkX11_moves (i := 15) rfl) rfl rfl ?_
      refine qr_geta (n := 32) 0 4 31 (dkX11_moves (i := 16) rfl) rfl lkO_0 rfl gnX11 (Nat.le_of_ble_eq_true rfl) kfX11_42 rfl ?_
      refine qr_iload_n (n := 33) 1 (dkX11_moves (i := 17) rfl) rfl rfl ?_
      refine qr_puti (n := 36) 31 1 (dkX11_moves (i := 18) rfl) rfl lkO_31 rfl gnX6 (Nat.le_of_ble_eq_true rfl) kfX11_199 rfl tyX6_ok nmX6 rfl rfl (fun S_2 => ?_)
      refine qr_aload_n (n := 37) 0 (dkX11_moves (i := 19) rfl) rfl rfl ?_
      refine qr_geta (n := 40) 0 4 31 (dkX11_moves (i := 20) rfl) rfl lkO_0 rfl gnX11 (Nat.le_of_ble_eq_true rfl) kfX11_42 rfl ?_
      refine qr_aload_n (n := 41) 0 (dkX11_moves (i := 21) rfl) rfl rfl ?_
      refine qr_geta (n := 44) 0 3 9 (dkX11_moves (i := 22) rfl) rfl lkO_0 rfl gnX11 (Nat.le_of_ble_eq_true rfl) kfX11_35 rfl ?_
      refine qr_geti (n := 47) 9 15 (dkX11_moves (i := 23) rfl) rfl lkO_9 rfl gnX5 (Nat.le_of_ble_eq_true rfl) kfX11_222 rfl ?_
      refine qr_cvu (n := 50) 31 [.int (S_2.1 9 15)] (dkX11_moves (i := 24) rfl) rfl kvX11_216 rfl rfl (Nat.le_of_ble_eq_true rfl) rfl rfl lkO_31 rfl (wX6_stand G S_2 31 (S_2.1 9 15) isS_31) (fun S_3 => ?_)
      refine qr_aload_n (n := 51) 0 (dkX11_moves (i := 25) rfl) rfl rfl ?_
      refine qr_geta (n := 54) 0 4 31 (dkX11_moves (i := 26) rfl) rfl lkO_0 rfl gnX11 (Nat.le_of_ble_eq_true rfl) kfX11_42 rfl ?_
      refine qr_geti (n := 57) 31 0 (dkX11_moves (i := 27) rfl) rfl lkO_31 rfl gnX6 (Nat.le_of_ble_eq_true rfl) kfX11_190 rfl ?_
      exact qr_iret (dkX11_moves (i := 28) rfl) rfl rfl
    · refine qr_bipush (n := 23) (-2) (dkX11_moves (i := 11) rfl) rfl (by decide) ?_
      exact qr_iret (dkX11_moves (i := 12) rfl) rfl rfl
  · refine qr_iconst (n := 9) (-1) (dkX11_moves (i := 4) rfl) rfl (by decide) ?_
    exact qr_iret (dkX11_moves (i := 5) rfl) rfl rfl
def tbX11_pay : List (Nat × Instr × Nat) := [(0, .aload_n 0, 1), (1, .iload_n 1, 1), (2, .invokevirtual 120, 3), (5, .ifCond .eq 14, 3), (8, .iload_n 2, 1), (9, .iconst 1, 1), (10, .sipush 300, 3), (13, .invokestatic 176, 3), (16, .ifCond .ne 5, 3), (19, .iconst (-1), 1), (20, .ireturn, 1), (21, .aload_n 0, 1), (22, .getfield 35, 3), (25, .getfield 135, 3), (28, .iload_n 1, 1), (29, .iaload, 1), (30, .iload_n 2, 1), (31, .imul, 1), (32, .istore_n 3, 1), (33, .iload_n 3, 1), (34, .aload_n 0, 1), (35, .getfield 42, 3), (38, .getfield 225, 3), (41, .if_icmp .le 6, 3), (44, .bipush (-2), 2), (46, .ireturn, 1), (47, .aload_n 0, 1), (48, .invokevirtual 206, 3), (51, .aload_n 0, 1), (52, .getfield 42, 3), (55, .dup, 1), (56, .getfield 225, 3), (59, .iload_n 3, 1), (60, .isub, 1), (61, .putfield 225, 3), (64, .aload_n 0, 1), (65, .getfield 42, 3), (68, .getfield 142, 3), (71, .iload_n 1, 1), (72, .aload_n 0, 1), (73, .getfield 42, 3), (76, .getfield 142, 3), (79, .iload_n 1, 1), (80, .iaload, 1), (81, .aload_n 0, 1), (82, .getfield 42, 3), (85, .getfield 190, 3), (88, .invokestatic 228, 3), (91, .iload_n 2, 1), (92, .iadd, 1), (93, .iastore, 1), (94, .aload_n 0, 1), (95, .getfield 42, 3), (98, .getfield 225, 3), (101, .ireturn, 1)]
set_option maxRecDepth 20000 in
theorem daX11_pay : ∀ x ∈ tbX11_pay, decode cX11_pay x.1 = .ok x.2 := by decide +kernel
theorem dkX11_pay {i pc n : Nat} {ins : Instr} (h : tbX11_pay[i]? = some (pc, ins, n)) : decode cX11_pay pc = .ok (ins, n) := daX11_pay (pc, ins, n) (List.mem_of_getElem? h)
def fX11_pay (S0 : qv_St) (x1 : Int32) (x2 : Int32) : Option (qv_St × Int32) :=
  (fX11_isNoise S0 x1).bind fun r_1 =>
  if r_1 = 0 then
    some (S0, (-1))
  else
    (fX11_within x2 1 300).bind fun r_2 =>
    if r_2 = 0 then
      some (S0, (-1))
    else
      qv_ck x1 8 <|
      qv_b (((S0.1 15 (Int32.toNatClampNeg x1)) * x2) : Int32) fun x3_1 =>
      if x3_1 ≤ (S0.1 31 3) then
        (fX11_beforeChange S0).bind fun S_1 =>
        qv_b (qv_si S_1 31 3 ((S_1.1 31 3) - x3_1)) fun S_2 =>
        qv_ck x1 8 <|
        qv_ck x1 8 <| qv_b (qv_si S_2 32 (Int32.toNatClampNeg x1) ((qv_mx (S_2.1 32 (Int32.toNatClampNeg x1)) (S_2.1 31 0)) + x2)) fun S_3 =>
        some (S_3, (S_3.1 31 3))
      else
        some (S0, (-2))
set_option maxRecDepth 20000 in
set_option maxHeartbeats 4000000 in
theorem wX11_pay (G : qv_GT) (S0 : qv_St) (x1 : Int32) (x2 : Int32) : ∀ r, fX11_pay S0 x1 x2 = some r → Cn G Lk yX11_pay cX11_pay 4 (some .int) 5 [.ref (G.2.2.1 0), .int x1, .int x2] S0 (qe_m r) := by
  refine cn_of (own := RX11) (emb := qe_m) (lv := [(0, .ref (G.2.2.1 0)), (1, .int x1), (2, .int x2)]) rfl rfl (Nat.le_of_ble_eq_true rfl) rfl (fun X => ?_)
  unfold fX11_pay
  refine qr_aload_n (n := 1) 0 (dkX11_pay (i := 0) rfl) rfl rfl ?_
  refine qr_iload_n (n := 2) 1 (dkX11_pay (i := 1) rfl) rfl rfl ?_
  refine qr_cvi (n := 5) 0 [.int x1] (dkX11_pay (i := 2) rfl) rfl kvX11_120 rfl rfl (Nat.le_of_ble_eq_true rfl) rfl rfl lkO_0 rfl (wX11_isNoise G S0 x1) (fun r_1 => ?_)
  refine qr_if_eq (t := 19) (n := 8) (dkX11_pay (i := 3) rfl) (by decide) rfl ?_ ?_
  · refine qr_iconst (n := 20) (-1) (dkX11_pay (i := 9) rfl) rfl (by decide) ?_
    exact qr_iret (dkX11_pay (i := 10) rfl) rfl rfl
  · refine qr_iload_n (n := 9) 2 (dkX11_pay (i := 4) rfl) rfl rfl ?_
    refine qr_iconst (n := 10) 1 (dkX11_pay (i := 5) rfl) rfl (by decide) ?_
    refine qr_sipush (n := 13) 300 (dkX11_pay (i := 6) rfl) rfl (by decide) ?_
    refine qr_csi (n := 16) [.int x2, .int 1, .int 300] (dkX11_pay (i := 7) rfl) rfl kvX11_176 rfl rfl (Nat.le_of_ble_eq_true rfl) rfl rfl (wX11_within G S0 x2 1 300) (fun r_2 => ?_)
    refine qr_if_ne (t := 21) (n := 19) (dkX11_pay (i := 8) rfl) (by decide) rfl ?_ ?_
    · refine qr_aload_n (n := 22) 0 (dkX11_pay (i := 11) rfl) rfl rfl ?_
      refine qr_geta (n := 25) 0 3 9 (dkX11_pay (i := 12) rfl) rfl lkO_0 rfl gnX11 (Nat.le_of_ble_eq_true rfl) kfX11_35 rfl ?_
      refine qr_geta (n := 28) 9 8 15 (dkX11_pay (i := 13) rfl) rfl lkO_9 rfl gnX5 (Nat.le_of_ble_eq_true rfl) kfX11_135 rfl ?_
      refine qr_iload_n (n := 29) 1 (dkX11_pay (i := 14) rfl) rfl rfl ?_
      refine qr_iald (n := 30) 15 8 (dkX11_pay (i := 15) rfl) rfl lkA_15 ?_
      refine qr_iload_n (n := 31) 2 (dkX11_pay (i := 16) rfl) rfl rfl ?_
      refine qr_imul (n := 32) (dkX11_pay (i := 17) rfl) rfl ?_
      refine qr_b (α := Int32) ((S0.1 15 (Int32.toNatClampNeg x1)) * x2) (lvf := fun _ => [(0, .ref (G.2.2.1 0)), (1, .int x1), (2, .int x2)]) (stf := fun z => .int z :: []) (Sf := fun _ => S0) (fun x3_1 => ?_)
      refine qr_istore_n (n := 33) (lv2 := [(0, .ref (G.2.2.1 0)), (1, .int x1), (2, .int x2), (3, .int x3_1)]) [1, 2, 3, 0] (dkX11_pay (i := 18) rfl) rfl rfl (by decide) rfl ?_
      refine qr_iload_n (n := 34) 3 (dkX11_pay (i := 19) rfl) rfl rfl ?_
      refine qr_aload_n (n := 35) 0 (dkX11_pay (i := 20) rfl) rfl rfl ?_
      refine qr_geta (n := 38) 0 4 31 (dkX11_pay (i := 21) rfl) rfl lkO_0 rfl gnX11 (Nat.le_of_ble_eq_true rfl) kfX11_42 rfl ?_
      refine qr_geti (n := 41) 31 3 (dkX11_pay (i := 22) rfl) rfl lkO_31 rfl gnX6 (Nat.le_of_ble_eq_true rfl) kfX11_225 rfl ?_
      refine qr_icmp_le (t := 47) (n := 44) (dkX11_pay (i := 23) rfl) (by decide) rfl ?_ ?_
      · refine qr_aload_n (n := 48) 0 (dkX11_pay (i := 26) rfl) rfl rfl ?_
        refine qr_cvu (n := 51) 0 [] (dkX11_pay (i := 27) rfl) rfl kvX11_206 rfl rfl (Nat.le_of_ble_eq_true rfl) rfl rfl lkO_0 rfl (wX11_beforeChange G S0) (fun S_1 => ?_)
        refine qr_aload_n (n := 52) 0 (dkX11_pay (i := 28) rfl) rfl rfl ?_
        refine qr_geta (n := 55) 0 4 31 (dkX11_pay (i := 29) rfl) rfl lkO_0 rfl gnX11 (Nat.le_of_ble_eq_true rfl) kfX11_42 rfl ?_
        refine qr_dup (n := 56) (dkX11_pay (i := 30) rfl) rfl rfl ?_
        refine qr_geti (n := 59) 31 3 (dkX11_pay (i := 31) rfl) rfl lkO_31 rfl gnX6 (Nat.le_of_ble_eq_true rfl) kfX11_225 rfl ?_
        refine qr_iload_n (n := 60) 3 (dkX11_pay (i := 32) rfl) rfl rfl ?_
        refine qr_isub (n := 61) (dkX11_pay (i := 33) rfl) rfl ?_
        refine qr_puti (n := 64) 31 3 (dkX11_pay (i := 34) rfl) rfl lkO_31 rfl gnX6 (Nat.le_of_ble_eq_true rfl) kfX11_225 rfl tyX6_ok nmX6 rfl rfl (fun S_2 => ?_)
        refine qr_aload_n (n := 65) 0 (dkX11_pay (i := 35) rfl) rfl rfl ?_
        refine qr_geta (n := 68) 0 4 31 (dkX11_pay (i := 36) rfl) rfl lkO_0 rfl gnX11 (Nat.le_of_ble_eq_true rfl) kfX11_42 rfl ?_
        refine qr_geta (n := 71) 31 4 32 (dkX11_pay (i := 37) rfl) rfl lkO_31 rfl gnX6 (Nat.le_of_ble_eq_true rfl) kfX11_142 rfl ?_
        refine qr_iload_n (n := 72) 1 (dkX11_pay (i := 38) rfl) rfl rfl ?_
        refine qr_aload_n (n := 73) 0 (dkX11_pay (i := 39) rfl) rfl rfl ?_
        refine qr_geta (n := 76) 0 4 31 (dkX11_pay (i := 40) rfl) rfl lkO_0 rfl gnX11 (Nat.le_of_ble_eq_true rfl) kfX11_42 rfl ?_
        refine qr_geta (n := 79) 31 4 32 (dkX11_pay (i := 41) rfl) rfl lkO_31 rfl gnX6 (Nat.le_of_ble_eq_true rfl) kfX11_142 rfl ?_
        refine qr_iload_n (n := 80) 1 (dkX11_pay (i := 42) rfl) rfl rfl ?_
        refine qr_iald (n := 81) 32 8 (dkX11_pay (i := 43) rfl) rfl lkA_32 ?_
        refine qr_aload_n (n := 82) 0 (dkX11_pay (i := 44) rfl) rfl rfl ?_
        refine qr_geta (n := 85) 0 4 31 (dkX11_pay (i := 45) rfl) rfl lkO_0 rfl gnX11 (Nat.le_of_ble_eq_true rfl) kfX11_42 rfl ?_
        refine qr_geti (n := 88) 31 0 (dkX11_pay (i := 46) rfl) rfl lkO_31 rfl gnX6 (Nat.le_of_ble_eq_true rfl) kfX11_190 rfl ?_
        refine qr_max (n := 91) (dkX11_pay (i := 47) rfl) rfl kmX11_228 kmhmax1 kmh2 kmhmax3 rfl (Nat.le_of_ble_eq_true rfl) ?_
        refine qr_iload_n (n := 92) 2 (dkX11_pay (i := 48) rfl) rfl rfl ?_
        refine qr_iadd (n := 93) (dkX11_pay (i := 49) rfl) rfl ?_
        refine qr_iast (n := 94) 32 8 (dkX11_pay (i := 50) rfl) rfl lkA_32 (fun S_3 => ?_)
        refine qr_aload_n (n := 95) 0 (dkX11_pay (i := 51) rfl) rfl rfl ?_
        refine qr_geta (n := 98) 0 4 31 (dkX11_pay (i := 52) rfl) rfl lkO_0 rfl gnX11 (Nat.le_of_ble_eq_true rfl) kfX11_42 rfl ?_
        refine qr_geti (n := 101) 31 3 (dkX11_pay (i := 53) rfl) rfl lkO_31 rfl gnX6 (Nat.le_of_ble_eq_true rfl) kfX11_225 rfl ?_
        exact qr_iret (dkX11_pay (i := 54) rfl) rfl rfl
      · refine qr_bipush (n := 46) (-2) (dkX11_pay (i := 24) rfl) rfl (by decide) ?_
        exact qr_iret (dkX11_pay (i := 25) rfl) rfl rfl
    · refine qr_iconst (n := 20) (-1) (dkX11_pay (i := 9) rfl) rfl (by decide) ?_
      exact qr_iret (dkX11_pay (i := 10) rfl) rfl rfl
def tbX11_undo : List (Nat × Instr × Nat) := [(0, .aload_n 0, 1), (1, .getfield 49, 3), (4, .getfield 233, 3), (7, .ifCond .ne 5, 3), (10, .iconst 0, 1), (11, .ireturn, 1), (12, .aload_n 0, 1), (13, .getfield 49, 3), (16, .aload_n 0, 1), (17, .getfield 42, 3), (20, .invokevirtual 236, 3), (23, .aload_n 0, 1), (24, .getfield 71, 3), (27, .invokevirtual 240, 3), (30, .iconst 1, 1), (31, .ireturn, 1)]
set_option maxRecDepth 20000 in
theorem daX11_undo : ∀ x ∈ tbX11_undo, decode cX11_undo x.1 = .ok x.2 := by decide +kernel
theorem dkX11_undo {i pc n : Nat} {ins : Instr} (h : tbX11_undo[i]? = some (pc, ins, n)) : decode cX11_undo pc = .ok (ins, n) := daX11_undo (pc, ins, n) (List.mem_of_getElem? h)
def fX11_undo (S0 : qv_St) : Option (qv_St × Int32) :=
  if (S0.1 36 2) = 0 then
    some (S0, 0)
  else
    (fX1_pop S0).bind fun S_1 =>
    (fX7_drop S_1).bind fun S_2 =>
    some (S_2, 1)
set_option maxRecDepth 20000 in
set_option maxHeartbeats 4000000 in
theorem wX11_undo (G : qv_GT) (S0 : qv_St) : ∀ r, fX11_undo S0 = some r → Cn G Lk yX11_undo cX11_undo 1 (some .boolean) 4 [.ref (G.2.2.1 0)] S0 (qe_m r) := by
  refine cn_of (own := RX11) (emb := qe_m) (lv := [(0, .ref (G.2.2.1 0))]) rfl rfl (Nat.le_of_ble_eq_true rfl) rfl (fun X => ?_)
  unfold fX11_undo
  refine qr_aload_n (n := 1) 0 (dkX11_undo (i := 0) rfl) rfl rfl ?_
  refine qr_geta (n := 4) 0 5 36 (dkX11_undo (i := 1) rfl) rfl lkO_0 rfl gnX11 (Nat.le_of_ble_eq_true rfl) kfX11_49 rfl ?_
  refine qr_geti (n := 7) 36 2 (dkX11_undo (i := 2) rfl) rfl lkO_36 rfl gnX1 (Nat.le_of_ble_eq_true rfl) kfX11_233 rfl ?_
  refine qr_if_ne (t := 12) (n := 10) (dkX11_undo (i := 3) rfl) (by decide) rfl ?_ ?_
  · refine qr_aload_n (n := 13) 0 (dkX11_undo (i := 6) rfl) rfl rfl ?_
    refine qr_geta (n := 16) 0 5 36 (dkX11_undo (i := 7) rfl) rfl lkO_0 rfl gnX11 (Nat.le_of_ble_eq_true rfl) kfX11_49 rfl ?_
    refine qr_aload_n (n := 17) 0 (dkX11_undo (i := 8) rfl) rfl rfl ?_
    refine qr_geta (n := 20) 0 4 31 (dkX11_undo (i := 9) rfl) rfl lkO_0 rfl gnX11 (Nat.le_of_ble_eq_true rfl) kfX11_42 rfl ?_
    refine qr_cvu (n := 23) 36 [.ref (G.2.2.1 31)] (dkX11_undo (i := 10) rfl) rfl kvX11_236 rfl rfl (Nat.le_of_ble_eq_true rfl) rfl rfl lkO_36 rfl (wX1_pop G S0) (fun S_1 => ?_)
    refine qr_aload_n (n := 24) 0 (dkX11_undo (i := 11) rfl) rfl rfl ?_
    refine qr_geta (n := 27) 0 9 260 (dkX11_undo (i := 12) rfl) rfl lkO_0 rfl gnX11 (Nat.le_of_ble_eq_true rfl) kfX11_71 rfl ?_
    refine qr_cvu (n := 30) 260 [] (dkX11_undo (i := 13) rfl) rfl kvX11_240 rfl rfl (Nat.le_of_ble_eq_true rfl) rfl rfl lkO_260 rfl (wX7_drop G S_1) (fun S_2 => ?_)
    refine qr_iconst (n := 31) 1 (dkX11_undo (i := 14) rfl) rfl (by decide) ?_
    exact qr_zretc (dkX11_undo (i := 15) rfl) rfl rfl rfl
  · refine qr_iconst (n := 11) 0 (dkX11_undo (i := 4) rfl) rfl (by decide) ?_
    exact qr_zretc (dkX11_undo (i := 5) rfl) rfl rfl rfl
def tbX11_isHole : List (Nat × Instr × Nat) := [(0, .aload_n 0, 1), (1, .iload_n 1, 1), (2, .invokevirtual 173, 3), (5, .ifCond .eq 27, 3), (8, .iload_n 2, 1), (9, .iconst 1, 1), (10, .bipush 30, 2), (12, .invokestatic 176, 3), (15, .ifCond .eq 17, 3), (18, .iload_n 3, 1), (19, .iconst 0, 1), (20, .bipush 99, 2), (22, .invokestatic 176, 3), (25, .ifCond .eq 7, 3), (28, .iconst 1, 1), (29, .goto 4, 3), (32, .iconst 0, 1), (33, .ireturn, 1)]
set_option maxRecDepth 20000 in
theorem daX11_isHole : ∀ x ∈ tbX11_isHole, decode cX11_isHole x.1 = .ok x.2 := by decide +kernel
theorem dkX11_isHole {i pc n : Nat} {ins : Instr} (h : tbX11_isHole[i]? = some (pc, ins, n)) : decode cX11_isHole pc = .ok (ins, n) := daX11_isHole (pc, ins, n) (List.mem_of_getElem? h)
def fX11_isHole (S0 : qv_St) (x1 : Int32) (x2 : Int32) (x3 : Int32) : Option Int32 :=
  (fX11_isPlace S0 x1).bind fun r_1 =>
  qv_j (
    some 0) fun K_1 =>
  if r_1 = 0 then
    K_1
  else
    (fX11_within x2 1 30).bind fun r_2 =>
    if r_2 = 0 then
      K_1
    else
      (fX11_within x3 0 99).bind fun r_3 =>
      if r_3 = 0 then
        K_1
      else
        some 1
set_option maxRecDepth 20000 in
set_option maxHeartbeats 4000000 in
theorem wX11_isHole (G : qv_GT) (S0 : qv_St) (x1 : Int32) (x2 : Int32) (x3 : Int32) : ∀ r, fX11_isHole S0 x1 x2 x3 = some r → Cn G Lk yX11_isHole cX11_isHole 4 (some .boolean) 3 [.ref (G.2.2.1 0), .int x1, .int x2, .int x3] S0 ((qe_i S0) r) := by
  refine cn_of (own := RX11) (emb := (qe_i S0)) (lv := [(0, .ref (G.2.2.1 0)), (1, .int x1), (2, .int x2), (3, .int x3)]) rfl rfl (Nat.le_of_ble_eq_true rfl) rfl (fun X => ?_)
  unfold fX11_isHole
  refine qr_aload_n (n := 1) 0 (dkX11_isHole (i := 0) rfl) rfl rfl ?_
  refine qr_iload_n (n := 2) 1 (dkX11_isHole (i := 1) rfl) rfl rfl ?_
  refine qr_cvi (n := 5) 0 [.int x1] (dkX11_isHole (i := 2) rfl) rfl kvX11_173 rfl rfl (Nat.le_of_ble_eq_true rfl) rfl rfl lkO_0 rfl (wX11_isPlace G S0 x1) (fun r_1 => ?_)
  refine qr_j (fun K_1 : Option Int32 => VV G Lk X RX11 cX11_isHole 4 (some .boolean) 3 (qe_i S0) 32 [] [] S0 (K_1)) (?_) (fun K_1 hK_1 => ?_)
  · refine qr_iconst (n := 33) 0 (dkX11_isHole (i := 16) rfl) rfl (by decide) ?_
    exact qr_zretc (dkX11_isHole (i := 17) rfl) rfl rfl rfl
  · refine qr_if_eq (t := 32) (n := 8) (dkX11_isHole (i := 3) rfl) (by decide) rfl ?_ ?_
    · refine qr_sub [] rfl ?_
      exact hK_1
    · refine qr_iload_n (n := 9) 2 (dkX11_isHole (i := 4) rfl) rfl rfl ?_
      refine qr_iconst (n := 10) 1 (dkX11_isHole (i := 5) rfl) rfl (by decide) ?_
      refine qr_bipush (n := 12) 30 (dkX11_isHole (i := 6) rfl) rfl (by decide) ?_
      refine qr_csi (n := 15) [.int x2, .int 1, .int 30] (dkX11_isHole (i := 7) rfl) rfl kvX11_176 rfl rfl (Nat.le_of_ble_eq_true rfl) rfl rfl (wX11_within G S0 x2 1 30) (fun r_2 => ?_)
      refine qr_if_eq (t := 32) (n := 18) (dkX11_isHole (i := 8) rfl) (by decide) rfl ?_ ?_
      · refine qr_sub [] rfl ?_
        exact hK_1
      · refine qr_iload_n (n := 19) 3 (dkX11_isHole (i := 9) rfl) rfl rfl ?_
        refine qr_iconst (n := 20) 0 (dkX11_isHole (i := 10) rfl) rfl (by decide) ?_
        refine qr_bipush (n := 22) 99 (dkX11_isHole (i := 11) rfl) rfl (by decide) ?_
        refine qr_csi (n := 25) [.int x3, .int 0, .int 99] (dkX11_isHole (i := 12) rfl) rfl kvX11_176 rfl rfl (Nat.le_of_ble_eq_true rfl) rfl rfl (wX11_within G S0 x3 0 99) (fun r_3 => ?_)
        refine qr_if_eq (t := 32) (n := 28) (dkX11_isHole (i := 13) rfl) (by decide) rfl ?_ ?_
        · refine qr_sub [] rfl ?_
          exact hK_1
        · refine qr_iconst (n := 29) 1 (dkX11_isHole (i := 14) rfl) rfl (by decide) ?_
          refine qr_goto (n := 33) (dkX11_isHole (i := 15) rfl) (by decide) ?_
          exact qr_zretc (dkX11_isHole (i := 17) rfl) rfl rfl rfl
def tbX11_hole : List (Nat × Instr × Nat) := [(0, .aload_n 0, 1), (1, .iload_n 1, 1), (2, .iload_n 2, 1), (3, .iload_n 3, 1), (4, .invokevirtual 243, 3), (7, .ifCond .ne 5, 3), (10, .iconst (-1), 1), (11, .ireturn, 1), (12, .aload_n 0, 1), (13, .getfield 71, 3), (16, .iload_n 1, 1), (17, .invokevirtual 184, 3), (20, .iconst 0, 1), (21, .istore 4, 2), (23, .iconst 0, 1), (24, .istore 5, 2), (26, .iload 5, 2), (28, .sipush 300, 3), (31, .iload_n 2, 1), (32, .iadd, 1), (33, .if_icmp .ge 45, 3), (36, .aload_n 0, 1), (37, .getfield 71, 3), (40, .iload 5, 2), (42, .invokevirtual 187, 3), (45, .iload_n 3, 1), (46, .if_icmp .gt 10, 3), (49, .iload 4, 2), (51, .iconst 1, 1), (52, .iadd, 1), (53, .goto 4, 3), (56, .iconst 0, 1), (57, .istore 4, 2), (59, .iload 4, 2), (61, .iload_n 2, 1), (62, .if_icmp .ne 10, 3), (65, .iload 5, 2), (67, .iload_n 2, 1), (68, .isub, 1), (69, .iconst 1, 1), (70, .iadd, 1), (71, .ireturn, 1), (72, .iinc 5 1, 3), (75, .goto (-49), 3), (78, .bipush (-2), 2), (80, .ireturn, 1)]
set_option maxRecDepth 20000 in
theorem daX11_hole : ∀ x ∈ tbX11_hole, decode cX11_hole x.1 = .ok x.2 := by decide +kernel
theorem dkX11_hole {i pc n : Nat} {ins : Instr} (h : tbX11_hole[i]? = some (pc, ins, n)) : decode cX11_hole pc = .ok (ins, n) := daX11_hole (pc, ins, n) (List.mem_of_getElem? h)
def fX11_hole (S0 : qv_St) (x1 : Int32) (x2 : Int32) (x3 : Int32) : Option (qv_St × Int32) :=
  (fX11_isHole S0 x1 x2 x3).bind fun r_1 =>
  if r_1 = 0 then
    some (S0, (-1))
  else
    (fX7_face S0 x1).bind fun S_1 =>
    qv_j (fun (S_2 : qv_St) (x5_1 : Int32) =>
      some (S_2, ((x5_1 - x2) + 1))) fun K_1 =>
    qv_lp3 qv_N (fun self_1 (S_3 : qv_St) (x4_1 : Int32) (x5_2 : Int32) =>
      if (300 + x2) ≤ x5_2 then
        some (S_3, (-2))
      else
        qv_cm (fX7_noiseAt S_3 x5_2) fun S_4 r_2 =>
        qv_j (fun (t_1 : Int32) =>
          if t_1 = x2 then
            K_1 S_4 x5_2
          else
            self_1 S_4 t_1 (x5_2 + 1)) fun K_2 =>
        if x3 < r_2 then
          K_2 0
        else
          K_2 (x4_1 + 1)) S_1 0 0
set_option maxRecDepth 20000 in
set_option maxHeartbeats 4000000 in
theorem wX11_hole (G : qv_GT) (S0 : qv_St) (x1 : Int32) (x2 : Int32) (x3 : Int32) : ∀ r, fX11_hole S0 x1 x2 x3 = some r → Cn G Lk yX11_hole cX11_hole 6 (some .int) 6 [.ref (G.2.2.1 0), .int x1, .int x2, .int x3] S0 (qe_m r) := by
  refine cn_of (own := RX11) (emb := qe_m) (lv := [(0, .ref (G.2.2.1 0)), (1, .int x1), (2, .int x2), (3, .int x3)]) rfl rfl (Nat.le_of_ble_eq_true rfl) rfl (fun X => ?_)
  unfold fX11_hole
  refine qr_aload_n (n := 1) 0 (dkX11_hole (i := 0) rfl) rfl rfl ?_
  refine qr_iload_n (n := 2) 1 (dkX11_hole (i := 1) rfl) rfl rfl ?_
  refine qr_iload_n (n := 3) 2 (dkX11_hole (i := 2) rfl) rfl rfl ?_
  refine qr_iload_n (n := 4) 3 (dkX11_hole (i := 3) rfl) rfl rfl ?_
  refine qr_cvi (n := 7) 0 [.int x1, .int x2, .int x3] (dkX11_hole (i := 4) rfl) rfl kvX11_243 rfl rfl (Nat.le_of_ble_eq_true rfl) rfl rfl lkO_0 rfl (wX11_isHole G S0 x1 x2 x3) (fun r_1 => ?_)
  refine qr_if_ne (t := 12) (n := 10) (dkX11_hole (i := 5) rfl) (by decide) rfl ?_ ?_
  · refine qr_aload_n (n := 13) 0 (dkX11_hole (i := 8) rfl) rfl rfl ?_
    refine qr_geta (n := 16) 0 9 260 (dkX11_hole (i := 9) rfl) rfl lkO_0 rfl gnX11 (Nat.le_of_ble_eq_true rfl) kfX11_71 rfl ?_
    refine qr_iload_n (n := 17) 1 (dkX11_hole (i := 10) rfl) rfl rfl ?_
    refine qr_cvu (n := 20) 260 [.int x1] (dkX11_hole (i := 11) rfl) rfl kvX11_184 rfl rfl (Nat.le_of_ble_eq_true rfl) rfl rfl lkO_260 rfl (wX7_face G S0 x1) (fun S_1 => ?_)
    refine qr_iconst (n := 21) 0 (dkX11_hole (i := 12) rfl) rfl (by decide) ?_
    refine qr_istore (n := 23) (lv2 := [(0, .ref (G.2.2.1 0)), (1, .int x1), (2, .int x2), (3, .int x3), (4, .int 0)]) [1, 2, 3, 4, 0] (dkX11_hole (i := 13) rfl) rfl (by decide) rfl ?_
    refine qr_iconst (n := 24) 0 (dkX11_hole (i := 14) rfl) rfl (by decide) ?_
    refine qr_istore (n := 26) (lv2 := [(0, .ref (G.2.2.1 0)), (1, .int x1), (2, .int x2), (3, .int x3), (4, .int 0), (5, .int 0)]) [1, 2, 3, 4, 5, 0] (dkX11_hole (i := 15) rfl) rfl (by decide) rfl ?_
    refine qr_sub [0, 2, 3, 4, 5] rfl ?_
    refine qr_j (fun K_1 : qv_St → Int32 → Option (qv_St × Int32) => ∀ (S_2 : qv_St) (x5_1 : Int32), VV G Lk X RX11 cX11_hole 6 (some .int) 6 qe_m 65 [(2, .int x2), (5, .int x5_1)] [] S_2 (K_1 S_2 x5_1)) (fun S_2 x5_1 => ?_) (fun K_1 hK_1 => ?_)
    · refine qr_iload (n := 67) 1 (dkX11_hole (i := 36) rfl) rfl rfl ?_
      refine qr_iload_n (n := 68) 0 (dkX11_hole (i := 37) rfl) rfl rfl ?_
      refine qr_isub (n := 69) (dkX11_hole (i := 38) rfl) rfl ?_
      refine qr_iconst (n := 70) 1 (dkX11_hole (i := 39) rfl) rfl (by decide) ?_
      refine qr_iadd (n := 71) (dkX11_hole (i := 40) rfl) rfl ?_
      exact qr_iret (dkX11_hole (i := 41) rfl) rfl rfl
    · refine qr_lp3 (fun (S_3 : qv_St) (x4_1 : Int32) (x5_2 : Int32) => [(0, .ref (G.2.2.1 0)), (2, .int x2), (3, .int x3), (4, .int x4_1), (5, .int x5_2)]) (fun (S_3 : qv_St) (x4_1 : Int32) (x5_2 : Int32) => S_3) (fun self_1 hself_1 S_3 x4_1 x5_2 => ?_) qv_N S_1 0 0
      refine qr_iload (n := 28) 4 (dkX11_hole (i := 16) rfl) rfl rfl ?_
      refine qr_sipush (n := 31) 300 (dkX11_hole (i := 17) rfl) rfl (by decide) ?_
      refine qr_iload_n (n := 32) 1 (dkX11_hole (i := 18) rfl) rfl rfl ?_
      refine qr_iadd (n := 33) (dkX11_hole (i := 19) rfl) rfl ?_
      refine qr_icmp_ge (t := 78) (n := 36) (dkX11_hole (i := 20) rfl) (by decide) rfl ?_ ?_
      · refine qr_bipush (n := 80) (-2) (dkX11_hole (i := 44) rfl) rfl (by decide) ?_
        exact qr_iret (dkX11_hole (i := 45) rfl) rfl rfl
      · refine qr_aload_n (n := 37) 0 (dkX11_hole (i := 21) rfl) rfl rfl ?_
        refine qr_geta (n := 40) 0 9 260 (dkX11_hole (i := 22) rfl) rfl lkO_0 rfl gnX11 (Nat.le_of_ble_eq_true rfl) kfX11_71 rfl ?_
        refine qr_iload (n := 42) 4 (dkX11_hole (i := 23) rfl) rfl rfl ?_
        refine qr_cvm (n := 45) 260 [.int x5_2] (dkX11_hole (i := 24) rfl) rfl kvX11_187 rfl rfl (Nat.le_of_ble_eq_true rfl) rfl rfl lkO_260 rfl (wX7_noiseAt G S_3 x5_2) (fun S_4 r_2 => ?_)
        refine qr_iload_n (n := 46) 2 (dkX11_hole (i := 25) rfl) rfl rfl ?_
        refine qr_j (fun K_2 : Int32 → Option (qv_St × Int32) => ∀ (t_1 : Int32), VV G Lk X RX11 cX11_hole 6 (some .int) 6 qe_m 57 [(0, .ref (G.2.2.1 0)), (2, .int x2), (3, .int x3), (5, .int x5_2)] [.int t_1] S_4 (K_2 t_1)) (fun t_1 => ?_) (fun K_2 hK_2 => ?_)
        · refine qr_istore (n := 59) (lv2 := [(0, .ref (G.2.2.1 0)), (2, .int x2), (3, .int x3), (4, .int t_1), (5, .int x5_2)]) [1, 2, 3, 0, 4] (dkX11_hole (i := 32) rfl) rfl (by decide) rfl ?_
          refine qr_iload (n := 61) 3 (dkX11_hole (i := 33) rfl) rfl rfl ?_
          refine qr_iload_n (n := 62) 1 (dkX11_hole (i := 34) rfl) rfl rfl ?_
          refine qr_icmp_ne (t := 72) (n := 65) (dkX11_hole (i := 35) rfl) (by decide) rfl ?_ ?_
          · refine qr_iinc (n := 75) (v := 1) (lv2 := [(0, .ref (G.2.2.1 0)), (2, .int x2), (3, .int x3), (4, .int t_1), (5, .int (x5_2 + 1))]) 4 [1, 2, 3, 4, 0] (dkX11_hole (i := 42) rfl) rfl rfl (by decide) (by decide) rfl ?_
            refine qr_goto (n := 26) (dkX11_hole (i := 43) rfl) (by decide) ?_
            exact hself_1 S_4 t_1 (x5_2 + 1)
          · refine qr_sub [1, 4] rfl ?_
            exact hK_1 S_4 x5_2
        · refine qr_icmp_gt (t := 56) (n := 49) (dkX11_hole (i := 26) rfl) (by decide) rfl ?_ ?_
          · refine qr_iconst (n := 57) 0 (dkX11_hole (i := 31) rfl) rfl (by decide) ?_
            refine qr_sub [0, 1, 2, 4] rfl ?_
            exact hK_2 0
          · refine qr_iload (n := 51) 3 (dkX11_hole (i := 27) rfl) rfl rfl ?_
            refine qr_iconst (n := 52) 1 (dkX11_hole (i := 28) rfl) rfl (by decide) ?_
            refine qr_iadd (n := 53) (dkX11_hole (i := 29) rfl) rfl ?_
            refine qr_goto (n := 57) (dkX11_hole (i := 30) rfl) (by decide) ?_
            refine qr_sub [0, 1, 2, 4] rfl ?_
            exact hK_2 (x4_1 + 1)
  · refine qr_iconst (n := 11) (-1) (dkX11_hole (i := 6) rfl) rfl (by decide) ?_
    exact qr_iret (dkX11_hole (i := 7) rfl) rfl rfl
def tbX11_holes : List (Nat × Instr × Nat) := [(0, .aload_n 0, 1), (1, .iload_n 1, 1), (2, .iload_n 2, 1), (3, .iload_n 3, 1), (4, .invokevirtual 243, 3), (7, .ifCond .ne 5, 3), (10, .iconst (-1), 1), (11, .ireturn, 1), (12, .aload_n 0, 1), (13, .getfield 71, 3), (16, .iload_n 1, 1), (17, .invokevirtual 184, 3), (20, .iconst 0, 1), (21, .istore 4, 2), (23, .iconst 0, 1), (24, .istore 5, 2), (26, .iconst 0, 1), (27, .istore 6, 2), (29, .iload 6, 2), (31, .sipush 299, 3), (34, .iload_n 2, 1), (35, .iadd, 1), (36, .if_icmp .ge 41, 3), (39, .aload_n 0, 1), (40, .getfield 71, 3), (43, .iload 6, 2), (45, .invokevirtual 187, 3), (48, .iload_n 3, 1), (49, .if_icmp .gt 10, 3), (52, .iload 4, 2), (54, .iconst 1, 1), (55, .iadd, 1), (56, .goto 4, 3), (59, .iconst 0, 1), (60, .istore 4, 2), (62, .iload 4, 2), (64, .iload_n 2, 1), (65, .if_icmp .lt 6, 3), (68, .iinc 5 1, 3), (71, .iinc 6 1, 3), (74, .goto (-45), 3), (77, .iload 5, 2), (79, .ireturn, 1)]
set_option maxRecDepth 20000 in
theorem daX11_holes : ∀ x ∈ tbX11_holes, decode cX11_holes x.1 = .ok x.2 := by decide +kernel
theorem dkX11_holes {i pc n : Nat} {ins : Instr} (h : tbX11_holes[i]? = some (pc, ins, n)) : decode cX11_holes pc = .ok (ins, n) := daX11_holes (pc, ins, n) (List.mem_of_getElem? h)
def fX11_holes (S0 : qv_St) (x1 : Int32) (x2 : Int32) (x3 : Int32) : Option (qv_St × Int32) :=
  (fX11_isHole S0 x1 x2 x3).bind fun r_1 =>
  if r_1 = 0 then
    some (S0, (-1))
  else
    (fX7_face S0 x1).bind fun S_1 =>
    qv_lp4 qv_N (fun self_1 (S_2 : qv_St) (x4_1 : Int32) (x5_1 : Int32) (x6_1 : Int32) =>
      if (299 + x2) ≤ x6_1 then
        some (S_2, x5_1)
      else
        qv_cm (fX7_noiseAt S_2 x6_1) fun S_3 r_2 =>
        qv_j (fun (t_1 : Int32) =>
          qv_j (fun (x5_2 : Int32) =>
            self_1 S_3 t_1 x5_2 (x6_1 + 1)) fun K_2 =>
          if t_1 < x2 then
            K_2 x5_1
          else
            K_2 (x5_1 + 1)) fun K_1 =>
        if x3 < r_2 then
          K_1 0
        else
          K_1 (x4_1 + 1)) S_1 0 0 0
set_option maxRecDepth 20000 in
set_option maxHeartbeats 4000000 in
theorem wX11_holes (G : qv_GT) (S0 : qv_St) (x1 : Int32) (x2 : Int32) (x3 : Int32) : ∀ r, fX11_holes S0 x1 x2 x3 = some r → Cn G Lk yX11_holes cX11_holes 7 (some .int) 6 [.ref (G.2.2.1 0), .int x1, .int x2, .int x3] S0 (qe_m r) := by
  refine cn_of (own := RX11) (emb := qe_m) (lv := [(0, .ref (G.2.2.1 0)), (1, .int x1), (2, .int x2), (3, .int x3)]) rfl rfl (Nat.le_of_ble_eq_true rfl) rfl (fun X => ?_)
  unfold fX11_holes
  refine qr_aload_n (n := 1) 0 (dkX11_holes (i := 0) rfl) rfl rfl ?_
  refine qr_iload_n (n := 2) 1 (dkX11_holes (i := 1) rfl) rfl rfl ?_
  refine qr_iload_n (n := 3) 2 (dkX11_holes (i := 2) rfl) rfl rfl ?_
  refine qr_iload_n (n := 4) 3 (dkX11_holes (i := 3) rfl) rfl rfl ?_
  refine qr_cvi (n := 7) 0 [.int x1, .int x2, .int x3] (dkX11_holes (i := 4) rfl) rfl kvX11_243 rfl rfl (Nat.le_of_ble_eq_true rfl) rfl rfl lkO_0 rfl (wX11_isHole G S0 x1 x2 x3) (fun r_1 => ?_)
  refine qr_if_ne (t := 12) (n := 10) (dkX11_holes (i := 5) rfl) (by decide) rfl ?_ ?_
  · refine qr_aload_n (n := 13) 0 (dkX11_holes (i := 8) rfl) rfl rfl ?_
    refine qr_geta (n := 16) 0 9 260 (dkX11_holes (i := 9) rfl) rfl lkO_0 rfl gnX11 (Nat.le_of_ble_eq_true rfl) kfX11_71 rfl ?_
    refine qr_iload_n (n := 17) 1 (dkX11_holes (i := 10) rfl) rfl rfl ?_
    refine qr_cvu (n := 20) 260 [.int x1] (dkX11_holes (i := 11) rfl) rfl kvX11_184 rfl rfl (Nat.le_of_ble_eq_true rfl) rfl rfl lkO_260 rfl (wX7_face G S0 x1) (fun S_1 => ?_)
    refine qr_iconst (n := 21) 0 (dkX11_holes (i := 12) rfl) rfl (by decide) ?_
    refine qr_istore (n := 23) (lv2 := [(0, .ref (G.2.2.1 0)), (1, .int x1), (2, .int x2), (3, .int x3), (4, .int 0)]) [1, 2, 3, 4, 0] (dkX11_holes (i := 13) rfl) rfl (by decide) rfl ?_
    refine qr_iconst (n := 24) 0 (dkX11_holes (i := 14) rfl) rfl (by decide) ?_
    refine qr_istore (n := 26) (lv2 := [(0, .ref (G.2.2.1 0)), (1, .int x1), (2, .int x2), (3, .int x3), (4, .int 0), (5, .int 0)]) [1, 2, 3, 4, 5, 0] (dkX11_holes (i := 15) rfl) rfl (by decide) rfl ?_
    refine qr_iconst (n := 27) 0 (dkX11_holes (i := 16) rfl) rfl (by decide) ?_
    refine qr_istore (n := 29) (lv2 := [(0, .ref (G.2.2.1 0)), (1, .int x1), (2, .int x2), (3, .int x3), (4, .int 0), (5, .int 0), (6, .int 0)]) [1, 2, 3, 4, 5, 6, 0] (dkX11_holes (i := 17) rfl) rfl (by decide) rfl ?_
    refine qr_sub [0, 2, 3, 4, 5, 6] rfl ?_
    refine qr_lp4 (fun (S_2 : qv_St) (x4_1 : Int32) (x5_1 : Int32) (x6_1 : Int32) => [(0, .ref (G.2.2.1 0)), (2, .int x2), (3, .int x3), (4, .int x4_1), (5, .int x5_1), (6, .int x6_1)]) (fun (S_2 : qv_St) (x4_1 : Int32) (x5_1 : Int32) (x6_1 : Int32) => S_2) (fun self_1 hself_1 S_2 x4_1 x5_1 x6_1 => ?_) qv_N S_1 0 0 0
    refine qr_iload (n := 31) 5 (dkX11_holes (i := 18) rfl) rfl rfl ?_
    refine qr_sipush (n := 34) 299 (dkX11_holes (i := 19) rfl) rfl (by decide) ?_
    refine qr_iload_n (n := 35) 1 (dkX11_holes (i := 20) rfl) rfl rfl ?_
    refine qr_iadd (n := 36) (dkX11_holes (i := 21) rfl) rfl ?_
    refine qr_icmp_ge (t := 77) (n := 39) (dkX11_holes (i := 22) rfl) (by decide) rfl ?_ ?_
    · refine qr_iload (n := 79) 4 (dkX11_holes (i := 41) rfl) rfl rfl ?_
      exact qr_iret (dkX11_holes (i := 42) rfl) rfl rfl
    · refine qr_aload_n (n := 40) 0 (dkX11_holes (i := 23) rfl) rfl rfl ?_
      refine qr_geta (n := 43) 0 9 260 (dkX11_holes (i := 24) rfl) rfl lkO_0 rfl gnX11 (Nat.le_of_ble_eq_true rfl) kfX11_71 rfl ?_
      refine qr_iload (n := 45) 5 (dkX11_holes (i := 25) rfl) rfl rfl ?_
      refine qr_cvm (n := 48) 260 [.int x6_1] (dkX11_holes (i := 26) rfl) rfl kvX11_187 rfl rfl (Nat.le_of_ble_eq_true rfl) rfl rfl lkO_260 rfl (wX7_noiseAt G S_2 x6_1) (fun S_3 r_2 => ?_)
      refine qr_iload_n (n := 49) 2 (dkX11_holes (i := 27) rfl) rfl rfl ?_
      refine qr_j (fun K_1 : Int32 → Option (qv_St × Int32) => ∀ (t_1 : Int32), VV G Lk X RX11 cX11_holes 7 (some .int) 6 qe_m 60 [(0, .ref (G.2.2.1 0)), (2, .int x2), (3, .int x3), (5, .int x5_1), (6, .int x6_1)] [.int t_1] S_3 (K_1 t_1)) (fun t_1 => ?_) (fun K_1 hK_1 => ?_)
      · refine qr_istore (n := 62) (lv2 := [(0, .ref (G.2.2.1 0)), (2, .int x2), (3, .int x3), (4, .int t_1), (5, .int x5_1), (6, .int x6_1)]) [1, 2, 3, 0, 4, 5] (dkX11_holes (i := 34) rfl) rfl (by decide) rfl ?_
        refine qr_iload (n := 64) 3 (dkX11_holes (i := 35) rfl) rfl rfl ?_
        refine qr_iload_n (n := 65) 1 (dkX11_holes (i := 36) rfl) rfl rfl ?_
        refine qr_j (fun K_2 : Int32 → Option (qv_St × Int32) => ∀ (x5_2 : Int32), VV G Lk X RX11 cX11_holes 7 (some .int) 6 qe_m 71 [(0, .ref (G.2.2.1 0)), (2, .int x2), (3, .int x3), (4, .int t_1), (5, .int x5_2), (6, .int x6_1)] [] S_3 (K_2 x5_2)) (fun x5_2 => ?_) (fun K_2 hK_2 => ?_)
        · refine qr_iinc (n := 74) (v := 1) (lv2 := [(0, .ref (G.2.2.1 0)), (2, .int x2), (3, .int x3), (4, .int t_1), (5, .int x5_2), (6, .int (x6_1 + 1))]) 5 [1, 2, 3, 4, 5, 0] (dkX11_holes (i := 39) rfl) rfl rfl (by decide) (by decide) rfl ?_
          refine qr_goto (n := 29) (dkX11_holes (i := 40) rfl) (by decide) ?_
          exact hself_1 S_3 t_1 x5_2 (x6_1 + 1)
        · refine qr_icmp_lt (t := 71) (n := 68) (dkX11_holes (i := 37) rfl) (by decide) rfl ?_ ?_
          · exact hK_2 x5_1
          · refine qr_iinc (n := 71) (v := 1) (lv2 := [(0, .ref (G.2.2.1 0)), (2, .int x2), (3, .int x3), (4, .int t_1), (5, .int (x5_1 + 1)), (6, .int x6_1)]) 4 [1, 2, 3, 4, 0, 5] (dkX11_holes (i := 38) rfl) rfl rfl (by decide) (by decide) rfl ?_
            exact hK_2 (x5_1 + 1)
      · refine qr_icmp_gt (t := 59) (n := 52) (dkX11_holes (i := 28) rfl) (by decide) rfl ?_ ?_
        · refine qr_iconst (n := 60) 0 (dkX11_holes (i := 33) rfl) rfl (by decide) ?_
          refine qr_sub [0, 1, 2, 4, 5] rfl ?_
          exact hK_1 0
        · refine qr_iload (n := 54) 3 (dkX11_holes (i := 29) rfl) rfl rfl ?_
          refine qr_iconst (n := 55) 1 (dkX11_holes (i := 30) rfl) rfl (by decide) ?_
          refine qr_iadd (n := 56) (dkX11_holes (i := 31) rfl) rfl ?_
          refine qr_goto (n := 60) (dkX11_holes (i := 32) rfl) (by decide) ?_
          refine qr_sub [0, 1, 2, 4, 5] rfl ?_
          exact hK_1 (x4_1 + 1)
  · refine qr_iconst (n := 11) (-1) (dkX11_holes (i := 6) rfl) rfl (by decide) ?_
    exact qr_iret (dkX11_holes (i := 7) rfl) rfl rfl
def tbX11_softest : List (Nat × Instr × Nat) := [(0, .aload_n 0, 1), (1, .iload_n 1, 1), (2, .invokevirtual 173, 3), (5, .ifCond .eq 22, 3), (8, .iload_n 2, 1), (9, .iconst 1, 1), (10, .bipush 30, 2), (12, .invokestatic 176, 3), (15, .ifCond .eq 12, 3), (18, .iload_n 3, 1), (19, .iconst 0, 1), (20, .iconst 1, 1), (21, .invokestatic 176, 3), (24, .ifCond .ne 5, 3), (27, .iconst (-1), 1), (28, .ireturn, 1), (29, .aload_n 0, 1), (30, .getfield 71, 3), (33, .iload_n 1, 1), (34, .invokevirtual 184, 3), (37, .bipush 100, 2), (39, .istore 4, 2), (41, .iconst 0, 1), (42, .istore 5, 2), (44, .iconst 0, 1), (45, .istore 6, 2), (47, .iload 6, 2), (49, .sipush 300, 3), (52, .if_icmp .gt 38, 3), (55, .aload_n 0, 1), (56, .getfield 71, 3), (59, .iload 6, 2), (61, .iload_n 2, 1), (62, .iload 4, 2), (64, .invokevirtual 246, 3), (67, .istore 7, 2), (69, .iload 7, 2), (71, .iload 4, 2), (73, .if_icmp .ge 11, 3), (76, .iload 7, 2), (78, .istore 4, 2), (80, .iload 6, 2), (82, .istore 5, 2), (84, .iinc 6 1, 3), (87, .goto (-40), 3), (90, .iload_n 3, 1), (91, .ifCond .ne 8, 3), (94, .iload 4, 2), (96, .goto 5, 3), (99, .iload 5, 2), (101, .ireturn, 1)]
set_option maxRecDepth 20000 in
theorem daX11_softest : ∀ x ∈ tbX11_softest, decode cX11_softest x.1 = .ok x.2 := by decide +kernel
theorem dkX11_softest {i pc n : Nat} {ins : Instr} (h : tbX11_softest[i]? = some (pc, ins, n)) : decode cX11_softest pc = .ok (ins, n) := daX11_softest (pc, ins, n) (List.mem_of_getElem? h)
def fX11_softest (S0 : qv_St) (x1 : Int32) (x2 : Int32) (x3 : Int32) : Option (qv_St × Int32) :=
  (fX11_isPlace S0 x1).bind fun r_1 =>
  if r_1 = 0 then
    some (S0, (-1))
  else
    (fX11_within x2 1 30).bind fun r_2 =>
    if r_2 = 0 then
      some (S0, (-1))
    else
      (fX11_within x3 0 1).bind fun r_3 =>
      if r_3 = 0 then
        some (S0, (-1))
      else
        (fX7_face S0 x1).bind fun S_1 =>
        qv_j (fun (S_2 : qv_St) (x4_1 : Int32) (x5_1 : Int32) =>
          if x3 = 0 then
            some (S_2, x4_1)
          else
            some (S_2, x5_1)) fun K_1 =>
        qv_lp4 qv_N (fun self_1 (S_3 : qv_St) (x4_2 : Int32) (x5_2 : Int32) (x6_1 : Int32) =>
          if 300 < x6_1 then
            K_1 S_3 x4_2 x5_2
          else
            qv_cm (fX7_greatest S_3 x6_1 x2 x4_2) fun S_4 r_4 =>
            qv_j (fun (x4_3 : Int32) (x5_3 : Int32) =>
              self_1 S_4 x4_3 x5_3 (x6_1 + 1)) fun K_2 =>
            if x4_2 ≤ r_4 then
              K_2 x4_2 x5_2
            else
              K_2 r_4 x6_1) S_1 100 0 0
set_option maxRecDepth 20000 in
set_option maxHeartbeats 4000000 in
theorem wX11_softest (G : qv_GT) (S0 : qv_St) (x1 : Int32) (x2 : Int32) (x3 : Int32) : ∀ r, fX11_softest S0 x1 x2 x3 = some r → Cn G Lk yX11_softest cX11_softest 8 (some .int) 7 [.ref (G.2.2.1 0), .int x1, .int x2, .int x3] S0 (qe_m r) := by
  refine cn_of (own := RX11) (emb := qe_m) (lv := [(0, .ref (G.2.2.1 0)), (1, .int x1), (2, .int x2), (3, .int x3)]) rfl rfl (Nat.le_of_ble_eq_true rfl) rfl (fun X => ?_)
  unfold fX11_softest
  refine qr_aload_n (n := 1) 0 (dkX11_softest (i := 0) rfl) rfl rfl ?_
  refine qr_iload_n (n := 2) 1 (dkX11_softest (i := 1) rfl) rfl rfl ?_
  refine qr_cvi (n := 5) 0 [.int x1] (dkX11_softest (i := 2) rfl) rfl kvX11_173 rfl rfl (Nat.le_of_ble_eq_true rfl) rfl rfl lkO_0 rfl (wX11_isPlace G S0 x1) (fun r_1 => ?_)
  refine qr_if_eq (t := 27) (n := 8) (dkX11_softest (i := 3) rfl) (by decide) rfl ?_ ?_
  · refine qr_iconst (n := 28) (-1) (dkX11_softest (i := 14) rfl) rfl (by decide) ?_
    exact qr_iret (dkX11_softest (i := 15) rfl) rfl rfl
  · refine qr_iload_n (n := 9) 2 (dkX11_softest (i := 4) rfl) rfl rfl ?_
    refine qr_iconst (n := 10) 1 (dkX11_softest (i := 5) rfl) rfl (by decide) ?_
    refine qr_bipush (n := 12) 30 (dkX11_softest (i := 6) rfl) rfl (by decide) ?_
    refine qr_csi (n := 15) [.int x2, .int 1, .int 30] (dkX11_softest (i := 7) rfl) rfl kvX11_176 rfl rfl (Nat.le_of_ble_eq_true rfl) rfl rfl (wX11_within G S0 x2 1 30) (fun r_2 => ?_)
    refine qr_if_eq (t := 27) (n := 18) (dkX11_softest (i := 8) rfl) (by decide) rfl ?_ ?_
    · refine qr_iconst (n := 28) (-1) (dkX11_softest (i := 14) rfl) rfl (by decide) ?_
      exact qr_iret (dkX11_softest (i := 15) rfl) rfl rfl
    · refine qr_iload_n (n := 19) 3 (dkX11_softest (i := 9) rfl) rfl rfl ?_
      refine qr_iconst (n := 20) 0 (dkX11_softest (i := 10) rfl) rfl (by decide) ?_
      refine qr_iconst (n := 21) 1 (dkX11_softest (i := 11) rfl) rfl (by decide) ?_
      refine qr_csi (n := 24) [.int x3, .int 0, .int 1] (dkX11_softest (i := 12) rfl) rfl kvX11_176 rfl rfl (Nat.le_of_ble_eq_true rfl) rfl rfl (wX11_within G S0 x3 0 1) (fun r_3 => ?_)
      refine qr_if_ne (t := 29) (n := 27) (dkX11_softest (i := 13) rfl) (by decide) rfl ?_ ?_
      · refine qr_aload_n (n := 30) 0 (dkX11_softest (i := 16) rfl) rfl rfl ?_
        refine qr_geta (n := 33) 0 9 260 (dkX11_softest (i := 17) rfl) rfl lkO_0 rfl gnX11 (Nat.le_of_ble_eq_true rfl) kfX11_71 rfl ?_
        refine qr_iload_n (n := 34) 1 (dkX11_softest (i := 18) rfl) rfl rfl ?_
        refine qr_cvu (n := 37) 260 [.int x1] (dkX11_softest (i := 19) rfl) rfl kvX11_184 rfl rfl (Nat.le_of_ble_eq_true rfl) rfl rfl lkO_260 rfl (wX7_face G S0 x1) (fun S_1 => ?_)
        refine qr_bipush (n := 39) 100 (dkX11_softest (i := 20) rfl) rfl (by decide) ?_
        refine qr_istore (n := 41) (lv2 := [(0, .ref (G.2.2.1 0)), (1, .int x1), (2, .int x2), (3, .int x3), (4, .int 100)]) [1, 2, 3, 4, 0] (dkX11_softest (i := 21) rfl) rfl (by decide) rfl ?_
        refine qr_iconst (n := 42) 0 (dkX11_softest (i := 22) rfl) rfl (by decide) ?_
        refine qr_istore (n := 44) (lv2 := [(0, .ref (G.2.2.1 0)), (1, .int x1), (2, .int x2), (3, .int x3), (4, .int 100), (5, .int 0)]) [1, 2, 3, 4, 5, 0] (dkX11_softest (i := 23) rfl) rfl (by decide) rfl ?_
        refine qr_iconst (n := 45) 0 (dkX11_softest (i := 24) rfl) rfl (by decide) ?_
        refine qr_istore (n := 47) (lv2 := [(0, .ref (G.2.2.1 0)), (1, .int x1), (2, .int x2), (3, .int x3), (4, .int 100), (5, .int 0), (6, .int 0)]) [1, 2, 3, 4, 5, 6, 0] (dkX11_softest (i := 25) rfl) rfl (by decide) rfl ?_
        refine qr_sub [0, 2, 3, 4, 5, 6] rfl ?_
        refine qr_j (fun K_1 : qv_St → Int32 → Int32 → Option (qv_St × Int32) => ∀ (S_2 : qv_St) (x4_1 : Int32) (x5_1 : Int32), VV G Lk X RX11 cX11_softest 8 (some .int) 7 qe_m 90 [(3, .int x3), (4, .int x4_1), (5, .int x5_1)] [] S_2 (K_1 S_2 x4_1 x5_1)) (fun S_2 x4_1 x5_1 => ?_) (fun K_1 hK_1 => ?_)
        · refine qr_iload_n (n := 91) 0 (dkX11_softest (i := 45) rfl) rfl rfl ?_
          refine qr_if_ne (t := 99) (n := 94) (dkX11_softest (i := 46) rfl) (by decide) rfl ?_ ?_
          · refine qr_iload (n := 101) 2 (dkX11_softest (i := 49) rfl) rfl rfl ?_
            exact qr_iret (dkX11_softest (i := 50) rfl) rfl rfl
          · refine qr_iload (n := 96) 1 (dkX11_softest (i := 47) rfl) rfl rfl ?_
            refine qr_goto (n := 101) (dkX11_softest (i := 48) rfl) (by decide) ?_
            exact qr_iret (dkX11_softest (i := 50) rfl) rfl rfl
        · refine qr_lp4 (fun (S_3 : qv_St) (x4_2 : Int32) (x5_2 : Int32) (x6_1 : Int32) => [(0, .ref (G.2.2.1 0)), (2, .int x2), (3, .int x3), (4, .int x4_2), (5, .int x5_2), (6, .int x6_1)]) (fun (S_3 : qv_St) (x4_2 : Int32) (x5_2 : Int32) (x6_1 : Int32) => S_3) (fun self_1 hself_1 S_3 x4_2 x5_2 x6_1 => ?_) qv_N S_1 100 0 0
          refine qr_iload (n := 49) 5 (dkX11_softest (i := 26) rfl) rfl rfl ?_
          refine qr_sipush (n := 52) 300 (dkX11_softest (i := 27) rfl) rfl (by decide) ?_
          refine qr_icmp_gt (t := 90) (n := 55) (dkX11_softest (i := 28) rfl) (by decide) rfl ?_ ?_
          · refine qr_sub [2, 3, 4] rfl ?_
            exact hK_1 S_3 x4_2 x5_2
          · refine qr_aload_n (n := 56) 0 (dkX11_softest (i := 29) rfl) rfl rfl ?_
            refine qr_geta (n := 59) 0 9 260 (dkX11_softest (i := 30) rfl) rfl lkO_0 rfl gnX11 (Nat.le_of_ble_eq_true rfl) kfX11_71 rfl ?_
            refine qr_iload (n := 61) 5 (dkX11_softest (i := 31) rfl) rfl rfl ?_
            refine qr_iload_n (n := 62) 1 (dkX11_softest (i := 32) rfl) rfl rfl ?_
            refine qr_iload (n := 64) 3 (dkX11_softest (i := 33) rfl) rfl rfl ?_
            refine qr_cvm (n := 67) 260 [.int x6_1, .int x2, .int x4_2] (dkX11_softest (i := 34) rfl) rfl kvX11_246 rfl rfl (Nat.le_of_ble_eq_true rfl) rfl rfl lkO_260 rfl (wX7_greatest G S_3 x6_1 x2 x4_2) (fun S_4 r_4 => ?_)
            refine qr_istore (n := 69) (lv2 := [(0, .ref (G.2.2.1 0)), (2, .int x2), (3, .int x3), (4, .int x4_2), (5, .int x5_2), (6, .int x6_1), (7, .int r_4)]) [1, 2, 3, 4, 5, 6, 0] (dkX11_softest (i := 35) rfl) rfl (by decide) rfl ?_
            refine qr_iload (n := 71) 6 (dkX11_softest (i := 36) rfl) rfl rfl ?_
            refine qr_iload (n := 73) 3 (dkX11_softest (i := 37) rfl) rfl rfl ?_
            refine qr_j (fun K_2 : Int32 → Int32 → Option (qv_St × Int32) => ∀ (x4_3 : Int32) (x5_3 : Int32), VV G Lk X RX11 cX11_softest 8 (some .int) 7 qe_m 84 [(0, .ref (G.2.2.1 0)), (2, .int x2), (3, .int x3), (4, .int x4_3), (5, .int x5_3), (6, .int x6_1)] [] S_4 (K_2 x4_3 x5_3)) (fun x4_3 x5_3 => ?_) (fun K_2 hK_2 => ?_)
            · refine qr_iinc (n := 87) (v := 1) (lv2 := [(0, .ref (G.2.2.1 0)), (2, .int x2), (3, .int x3), (4, .int x4_3), (5, .int x5_3), (6, .int (x6_1 + 1))]) 5 [1, 2, 3, 4, 5, 0] (dkX11_softest (i := 43) rfl) rfl rfl (by decide) (by decide) rfl ?_
              refine qr_goto (n := 47) (dkX11_softest (i := 44) rfl) (by decide) ?_
              exact hself_1 S_4 x4_3 x5_3 (x6_1 + 1)
            · refine qr_icmp_ge (t := 84) (n := 76) (dkX11_softest (i := 38) rfl) (by decide) rfl ?_ ?_
              · refine qr_sub [0, 1, 2, 3, 4, 5] rfl ?_
                exact hK_2 x4_2 x5_2
              · refine qr_iload (n := 78) 6 (dkX11_softest (i := 39) rfl) rfl rfl ?_
                refine qr_istore (n := 80) (lv2 := [(0, .ref (G.2.2.1 0)), (2, .int x2), (3, .int x3), (4, .int r_4), (5, .int x5_2), (6, .int x6_1), (7, .int r_4)]) [1, 2, 3, 0, 4, 5, 6] (dkX11_softest (i := 40) rfl) rfl (by decide) rfl ?_
                refine qr_iload (n := 82) 5 (dkX11_softest (i := 41) rfl) rfl rfl ?_
                refine qr_istore (n := 84) (lv2 := [(0, .ref (G.2.2.1 0)), (2, .int x2), (3, .int x3), (4, .int r_4), (5, .int x6_1), (6, .int x6_1), (7, .int r_4)]) [1, 2, 3, 4, 0, 5, 6] (dkX11_softest (i := 42) rfl) rfl (by decide) rfl ?_
                refine qr_sub [0, 1, 2, 3, 4, 5] rfl ?_
                exact hK_2 r_4 x6_1
      · refine qr_iconst (n := 28) (-1) (dkX11_softest (i := 14) rfl) rfl (by decide) ?_
        exact qr_iret (dkX11_softest (i := 15) rfl) rfl rfl
