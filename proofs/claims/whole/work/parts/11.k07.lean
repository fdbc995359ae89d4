def tbX11_tell : List (Nat × Instr × Nat) := [(0, .aload_n 0, 1), (1, .iload_n 1, 1), (2, .invokevirtual 173, 3), (5, .ifCond .eq 23, 3), (8, .iload_n 2, 1), (9, .iconst 0, 1), (10, .bipush 99, 2), (12, .invokestatic 176, 3), (15, .ifCond .eq 13, 3), (18, .iload_n 3, 1), (19, .iconst 0, 1), (20, .bipush 99, 2), (22, .invokestatic 176, 3), (25, .ifCond .ne 5, 3), (28, .iconst (-1), 1), (29, .ireturn, 1), (30, .aload_n 0, 1), (31, .getfield 89, 3), (34, .getfield 317, 3), (37, .bipush 20, 2), (39, .if_icmp .lt 5, 3), (42, .iconst (-1), 1), (43, .ireturn, 1), (44, .aload_n 0, 1), (45, .getfield 89, 3), (48, .iload_n 1, 1), (49, .iload_n 2, 1), (50, .iload_n 3, 1), (51, .invokevirtual 318, 3), (54, .aload_n 0, 1), (55, .getfield 89, 3), (58, .getfield 317, 3), (61, .iconst 1, 1), (62, .isub, 1), (63, .ireturn, 1)]
set_option maxRecDepth 20000 in
theorem daX11_tell : ∀ x ∈ tbX11_tell, decode cX11_tell x.1 = .ok x.2 := by decide +kernel
theorem dkX11_tell {i pc n : Nat} {ins : Instr} (h : tbX11_tell[i]? = some (pc, ins, n)) : decode cX11_tell pc = .ok (ins, n) := daX11_tell (pc, ins, n) (List.mem_of_getElem? h)
def fX11_tell (S0 : qv_St) (x1 : Int32) (x2 : Int32) (x3 : Int32) : Option (qv_St × Int32) :=
  (fX11_isPlace S0 x1).bind fun r_1 =>
  if r_1 = 0 then
    some (S0, (-1))
  else
    (fX11_within x2 0 99).bind fun r_2 =>
    if r_2 = 0 then
      some (S0, (-1))
    else
      (fX11_within x3 0 99).bind fun r_3 =>
      if r_3 = 0 then
        some (S0, (-1))
      else
        if (S0.1 268 3) < 20 then
          (fX10_add S0 x1 x2 x3).bind fun S_1 =>
          some (S_1, ((S_1.1 268 3) - 1))
        else
          some (S0, (-1))
set_option maxRecDepth 20000 in
set_option maxHeartbeats 4000000 in
theorem wX11_tell (G : qv_GT) (S0 : qv_St) (x1 : Int32) (x2 : Int32) (x3 : Int32) : ∀ r, fX11_tell S0 x1 x2 x3 = some r → Cn G Lk yX11_tell cX11_tell 4 (some .int) 6 [.ref (G.2.2.1 0), .int x1, .int x2, .int x3] S0 (qe_m r) := by
  refine cn_of (own := RX11) (emb := qe_m) (lv := [(0, .ref (G.2.2.1 0)), (1, .int x1), (2, .int x2), (3, .int x3)]) rfl rfl (Nat.le_of_ble_eq_true rfl) rfl (fun X => ?_)
  unfold fX11_tell
  refine qr_aload_n (n := 1) 0 (dkX11_tell (i := 0) rfl) rfl rfl ?_
  refine qr_iload_n (n := 2) 1 (dkX11_tell (i := 1) rfl) rfl rfl ?_
  refine qr_cvi (n := 5) 0 [.int x1] (dkX11_tell (i := 2) rfl) rfl kvX11_173 rfl rfl (Nat.le_of_ble_eq_true rfl) rfl rfl lkO_0 rfl (wX11_isPlace G S0 x1) (fun r_1 => ?_)
  refine qr_if_eq (t := 28) (n := 8) (dkX11_tell (i := 3) rfl) (by decide) rfl ?_ ?_
  · refine qr_iconst (n := 29) (-1) (dkX11_tell (i := 14) rfl) rfl (by decide) ?_
    exact qr_iret (dkX11_tell (i := 15) rfl) rfl rfl
  · refine qr_iload_n (n := 9) 2 (dkX11_tell (i := 4) rfl) rfl rfl ?_
    refine qr_iconst (n := 10) 0 (dkX11_tell (i := 5) rfl) rfl (by decide) ?_
    refine qr_bipush (n := 12) 99 (dkX11_tell (i := 6) rfl) rfl (by decide) ?_
    refine qr_csi (n := 15) [.int x2, .int 0, .int 99] (dkX11_tell (i := 7) rfl) rfl kvX11_176 rfl rfl (Nat.le_of_ble_eq_true rfl) rfl rfl (wX11_within G S0 x2 0 99) (fun r_2 => ?_)
    refine qr_if_eq (t := 28) (n := 18) (dkX11_tell (i := 8) rfl) (by decide) rfl ?_ ?_
    · refine qr_iconst (n := 29) (-1) (dkX11_tell (i := 14) rfl) rfl (by decide) ?_
      exact qr_iret (dkX11_tell (i := 15) rfl) rfl rfl
    · refine qr_iload_n (n := 19) 3 (dkX11_tell (i := 9) rfl) rfl rfl ?_
      refine qr_iconst (n := 20) 0 (dkX11_tell (i := 10) rfl) rfl (by decide) ?_
      refine qr_bipush (n := 22) 99 (dkX11_tell (i := 11) rfl) rfl (by decide) ?_
      refine qr_csi (n := 25) [.int x3, .int 0, .int 99] (dkX11_tell (i := 12) rfl) rfl kvX11_176 rfl rfl (Nat.le_of_ble_eq_true rfl) rfl rfl (wX11_within G S0 x3 0 99) (fun r_3 => ?_)
      refine qr_if_ne (t := 30) (n := 28) (dkX11_tell (i := 13) rfl) (by decide) rfl ?_ ?_
      · refine qr_aload_n (n := 31) 0 (dkX11_tell (i := 16) rfl) rfl rfl ?_
        refine qr_geta (n := 34) 0 11 268 (dkX11_tell (i := 17) rfl) rfl lkO_0 rfl gnX11 (Nat.le_of_ble_eq_true rfl) kfX11_89 rfl ?_
        refine qr_geti (n := 37) 268 3 (dkX11_tell (i := 18) rfl) rfl lkO_268 rfl gnX10 (Nat.le_of_ble_eq_true rfl) kfX11_317 rfl ?_
        refine qr_bipush (n := 39) 20 (dkX11_tell (i := 19) rfl) rfl (by decide) ?_
        refine qr_icmp_lt (t := 44) (n := 42) (dkX11_tell (i := 20) rfl) (by decide) rfl ?_ ?_
        · refine qr_aload_n (n := 45) 0 (dkX11_tell (i := 23) rfl) rfl rfl ?_
          refine qr_geta (n := 48) 0 11 268 (dkX11_tell (i := 24) rfl) rfl lkO_0 rfl gnX11 (Nat.le_of_ble_eq_true rfl) kfX11_89 rfl ?_
          refine qr_iload_n (n := 49) 1 (dkX11_tell (i := 25) rfl) rfl rfl ?_
          refine qr_iload_n (n := 50) 2 (dkX11_tell (i := 26) rfl) rfl rfl ?_
          refine qr_iload_n (n := 51) 3 (dkX11_tell (i := 27) rfl) rfl rfl ?_
          refine qr_cvu (n := 54) 268 [.int x1, .int x2, .int x3] (dkX11_tell (i := 28) rfl) rfl kvX11_318 rfl rfl (Nat.le_of_ble_eq_true rfl) rfl rfl lkO_268 rfl (wX10_add G S0 x1 x2 x3) (fun S_1 => ?_)
          refine qr_aload_n (n := 55) 0 (dkX11_tell (i := 29) rfl) rfl rfl ?_
          refine qr_geta (n := 58) 0 11 268 (dkX11_tell (i := 30) rfl) rfl lkO_0 rfl gnX11 (Nat.le_of_ble_eq_true rfl) kfX11_89 rfl ?_
          refine qr_geti (n := 61) 268 3 (dkX11_tell (i := 31) rfl) rfl lkO_268 rfl gnX10 (Nat.le_of_ble_eq_true rfl) kfX11_317 rfl ?_
          refine qr_iconst (n := 62) 1 (dkX11_tell (i := 32) rfl) rfl (by decide) ?_
          refine qr_isub (n := 63) (dkX11_tell (i := 33) rfl) rfl ?_
          exact qr_iret (dkX11_tell (i := 34) rfl) rfl rfl
        · refine qr_iconst (n := 43) (-1) (dkX11_tell (i := 21) rfl) rfl (by decide) ?_
          exact qr_iret (dkX11_tell (i := 22) rfl) rfl rfl
      · refine qr_iconst (n := 29) (-1) (dkX11_tell (i := 14) rfl) rfl (by decide) ?_
        exact qr_iret (dkX11_tell (i := 15) rfl) rfl rfl
def tbX11_forget : List (Nat × Instr × Nat) := [(0, .aload_n 0, 1), (1, .getfield 89, 3), (4, .getfield 317, 3), (7, .istore_n 1, 1), (8, .aload_n 0, 1), (9, .getfield 89, 3), (12, .invokevirtual 320, 3), (15, .iload_n 1, 1), (16, .ireturn, 1)]
set_option maxRecDepth 20000 in
theorem daX11_forget : ∀ x ∈ tbX11_forget, decode cX11_forget x.1 = .ok x.2 := by decide +kernel
theorem dkX11_forget {i pc n : Nat} {ins : Instr} (h : tbX11_forget[i]? = some (pc, ins, n)) : decode cX11_forget pc = .ok (ins, n) := daX11_forget (pc, ins, n) (List.mem_of_getElem? h)
def fX11_forget (S0 : qv_St) : Option (qv_St × Int32) :=
  qv_b ((S0.1 268 3) : Int32) fun x1_1 =>
  (fX10_clear S0).bind fun S_1 =>
  some (S_1, x1_1)
set_option maxRecDepth 20000 in
set_option maxHeartbeats 4000000 in
theorem wX11_forget (G : qv_GT) (S0 : qv_St) : ∀ r, fX11_forget S0 = some r → Cn G Lk yX11_forget cX11_forget 2 (some .int) 3 [.ref (G.2.2.1 0)] S0 (qe_m r) := by
  refine cn_of (own := RX11) (emb := qe_m) (lv := [(0, .ref (G.2.2.1 0))]) rfl rfl (Nat.le_of_ble_eq_true rfl) rfl (fun X => ?_)
  unfold fX11_forget
  refine qr_aload_n (n := 1) 0 (dkX11_forget (i := 0) rfl) rfl rfl ?_
  refine qr_geta (n := 4) 0 11 268 (dkX11_forget (i := 1) rfl) rfl lkO_0 rfl gnX11 (Nat.le_of_ble_eq_true rfl) kfX11_89 rfl ?_
  refine qr_geti (n := 7) 268 3 (dkX11_forget (i := 2) rfl) rfl lkO_268 rfl gnX10 (Nat.le_of_ble_eq_true rfl) kfX11_317 rfl ?_
  refine qr_b (α := Int32) (S0.1 268 3) (lvf := fun _ => [(0, .ref (G.2.2.1 0))]) (stf := fun z => .int z :: []) (Sf := fun _ => S0) (fun x1_1 => ?_)
  refine qr_istore_n (n := 8) (lv2 := [(0, .ref (G.2.2.1 0)), (1, .int x1_1)]) [1, 0] (dkX11_forget (i := 3) rfl) rfl rfl (by decide) rfl ?_
  refine qr_aload_n (n := 9) 0 (dkX11_forget (i := 4) rfl) rfl rfl ?_
  refine qr_geta (n := 12) 0 11 268 (dkX11_forget (i := 5) rfl) rfl lkO_0 rfl gnX11 (Nat.le_of_ble_eq_true rfl) kfX11_89 rfl ?_
  refine qr_cvu (n := 15) 268 [] (dkX11_forget (i := 6) rfl) rfl kvX11_320 rfl rfl (Nat.le_of_ble_eq_true rfl) rfl rfl lkO_268 rfl (wX10_clear G S0) (fun S_1 => ?_)
  refine qr_iload_n (n := 16) 1 (dkX11_forget (i := 7) rfl) rfl rfl ?_
  exact qr_iret (dkX11_forget (i := 8) rfl) rfl rfl
def tbX11_when : List (Nat × Instr × Nat) := [(0, .iload_n 1, 1), (1, .iconst 0, 1), (2, .aload_n 0, 1), (3, .getfield 89, 3), (6, .getfield 317, 3), (9, .invokestatic 176, 3), (12, .ifCond .eq 8, 3), (15, .iload_n 2, 1), (16, .iconst (-1), 1), (17, .if_icmp .ge 5, 3), (20, .iconst (-1), 1), (21, .ireturn, 1), (22, .iload_n 2, 1), (23, .iconst (-1), 1), (24, .if_icmp .ne 14, 3), (27, .aload_n 0, 1), (28, .getfield 89, 3), (31, .iload_n 1, 1), (32, .invokevirtual 323, 3), (35, .goto 12, 3), (38, .aload_n 0, 1), (39, .getfield 89, 3), (42, .iload_n 1, 1), (43, .iload_n 2, 1), (44, .invokevirtual 326, 3), (47, .ireturn, 1)]
set_option maxRecDepth 20000 in
theorem daX11_when : ∀ x ∈ tbX11_when, decode cX11_when x.1 = .ok x.2 := by decide +kernel
theorem dkX11_when {i pc n : Nat} {ins : Instr} (h : tbX11_when[i]? = some (pc, ins, n)) : decode cX11_when pc = .ok (ins, n) := daX11_when (pc, ins, n) (List.mem_of_getElem? h)
def fX11_when (S0 : qv_St) (x1 : Int32) (x2 : Int32) : Option Int32 :=
  (fX11_within x1 0 (S0.1 268 3)).bind fun r_1 =>
  if r_1 = 0 then
    some (-1)
  else
    if (-1) ≤ x2 then
      if x2 = (-1) then
        (fX10_howMany S0 x1).bind fun r_3 =>
        some r_3
      else
        (fX10_which S0 x1 x2).bind fun r_2 =>
        some r_2
    else
      some (-1)
set_option maxRecDepth 20000 in
set_option maxHeartbeats 4000000 in
theorem wX11_when (G : qv_GT) (S0 : qv_St) (x1 : Int32) (x2 : Int32) : ∀ r, fX11_when S0 x1 x2 = some r → Cn G Lk yX11_when cX11_when 3 (some .int) 2 [.ref (G.2.2.1 0), .int x1, .int x2] S0 ((qe_i S0) r) := by
  refine cn_of (own := RX11) (emb := (qe_i S0)) (lv := [(0, .ref (G.2.2.1 0)), (1, .int x1), (2, .int x2)]) rfl rfl (Nat.le_of_ble_eq_true rfl) rfl (fun X => ?_)
  unfold fX11_when
  refine qr_iload_n (n := 1) 1 (dkX11_when (i := 0) rfl) rfl rfl ?_
  refine qr_iconst (n := 2) 0 (dkX11_when (i := 1) rfl) rfl (by decide) ?_
  refine qr_aload_n (n := 3) 0 (dkX11_when (i := 2) rfl) rfl rfl ?_
  refine qr_geta (n := 6) 0 11 268 (dkX11_when (i := 3) rfl) rfl lkO_0 rfl gnX11 (Nat.le_of_ble_eq_true rfl) kfX11_89 rfl ?_
  refine qr_geti (n := 9) 268 3 (dkX11_when (i := 4) rfl) rfl lkO_268 rfl gnX10 (Nat.le_of_ble_eq_true rfl) kfX11_317 rfl ?_
  refine qr_csi (n := 12) [.int x1, .int 0, .int (S0.1 268 3)] (dkX11_when (i := 5) rfl) rfl kvX11_176 rfl rfl (Nat.le_of_ble_eq_true rfl) rfl rfl (wX11_within G S0 x1 0 (S0.1 268 3)) (fun r_1 => ?_)
  refine qr_if_eq (t := 20) (n := 15) (dkX11_when (i := 6) rfl) (by decide) rfl ?_ ?_
  · refine qr_iconst (n := 21) (-1) (dkX11_when (i := 10) rfl) rfl (by decide) ?_
    exact qr_iret (dkX11_when (i := 11) rfl) rfl rfl
  · refine qr_iload_n (n := 16) 2 (dkX11_when (i := 7) rfl) rfl rfl ?_
    refine qr_iconst (n := 17) (-1) (dkX11_when (i := 8) rfl) rfl (by decide) ?_
    refine qr_icmp_ge (t := 22) (n := 20) (dkX11_when (i := 9) rfl) (by decide) rfl ?_ ?_
    · refine qr_iload_n (n := 23) 2 (dkX11_when (i := 12) rfl) rfl rfl ?_
      refine qr_iconst (n := 24) (-1) (dkX11_when (i := 13) rfl) rfl (by decide) ?_
      refine qr_icmp_ne (t := 38) (n := 27) (dkX11_when (i := 14) rfl) (by decide) rfl ?_ ?_
      · refine qr_aload_n (n := 39) 0 (dkX11_when (i := 20) rfl) rfl rfl ?_
        refine qr_geta (n := 42) 0 11 268 (dkX11_when (i := 21) rfl) rfl lkO_0 rfl gnX11 (Nat.le_of_ble_eq_true rfl) kfX11_89 rfl ?_
        refine qr_iload_n (n := 43) 1 (dkX11_when (i := 22) rfl) rfl rfl ?_
        refine qr_iload_n (n := 44) 2 (dkX11_when (i := 23) rfl) rfl rfl ?_
        refine qr_cvi (n := 47) 268 [.int x1, .int x2] (dkX11_when (i := 24) rfl) rfl kvX11_326 rfl rfl (Nat.le_of_ble_eq_true rfl) rfl rfl lkO_268 rfl (wX10_which G S0 x1 x2) (fun r_2 => ?_)
        exact qr_iret (dkX11_when (i := 25) rfl) rfl rfl
      · refine qr_aload_n (n := 28) 0 (dkX11_when (i := 15) rfl) rfl rfl ?_
        refine qr_geta (n := 31) 0 11 268 (dkX11_when (i := 16) rfl) rfl lkO_0 rfl gnX11 (Nat.le_of_ble_eq_true rfl) kfX11_89 rfl ?_
        refine qr_iload_n (n := 32) 1 (dkX11_when (i := 17) rfl) rfl rfl ?_
        refine qr_cvi (n := 35) 268 [.int x1] (dkX11_when (i := 18) rfl) rfl kvX11_323 rfl rfl (Nat.le_of_ble_eq_true rfl) rfl rfl lkO_268 rfl (wX10_howMany G S0 x1) (fun r_3 => ?_)
        refine qr_goto (n := 47) (dkX11_when (i := 19) rfl) (by decide) ?_
        exact qr_iret (dkX11_when (i := 25) rfl) rfl rfl
    · refine qr_iconst (n := 21) (-1) (dkX11_when (i := 10) rfl) rfl (by decide) ?_
      exact qr_iret (dkX11_when (i := 11) rfl) rfl rfl
def tbX11_hold : List (Nat × Instr × Nat) := [(0, .iload_n 1, 1), (1, .iconst 0, 1), (2, .iconst 2, 1), (3, .invokestatic 176, 3), (6, .ifCond .ne 5, 3), (9, .iconst 0, 1), (10, .ireturn, 1), (11, .aload_n 0, 1), (12, .getfield 53, 3), (15, .iload_n 1, 1), (16, .aaload, 1), (17, .aload_n 0, 1), (18, .getfield 42, 3), (21, .invokevirtual 329, 3), (24, .aload_n 0, 1), (25, .dup, 1), (26, .getfield 332, 3), (29, .iconst 1, 1), (30, .iload_n 1, 1), (31, .ishl, 1), (32, .ior, 1), (33, .putfield 332, 3), (36, .iconst 1, 1), (37, .ireturn, 1)]
set_option maxRecDepth 20000 in
theorem daX11_hold : ∀ x ∈ tbX11_hold, decode cX11_hold x.1 = .ok x.2 := by decide +kernel
theorem dkX11_hold {i pc n : Nat} {ins : Instr} (h : tbX11_hold[i]? = some (pc, ins, n)) : decode cX11_hold pc = .ok (ins, n) := daX11_hold (pc, ins, n) (List.mem_of_getElem? h)
def fX11_hold (S0 : qv_St) (x1 : Int32) : Option (qv_St × Int32) :=
  (fX11_within x1 0 2).bind fun r_1 =>
  if r_1 = 0 then
    some (S0, 0)
  else
    qv_ck x1 3 <| (kSlots[Int32.toNatClampNeg x1]?).bind fun b_1 =>
    (fX6_copy S0 b_1 31).bind fun S_1 =>
    qv_b (qv_si S_1 0 7 ((S_1.1 0 7) ||| (1 <<< (x1 &&& 31)))) fun S_2 =>
    some (S_2, 1)
set_option maxRecDepth 20000 in
set_option maxHeartbeats 4000000 in
theorem wX11_hold (G : qv_GT) (S0 : qv_St) (x1 : Int32) : ∀ r, fX11_hold S0 x1 = some r → Cn G Lk yX11_hold cX11_hold 2 (some .boolean) 3 [.ref (G.2.2.1 0), .int x1] S0 (qe_m r) := by
  refine cn_of (own := RX11) (emb := qe_m) (lv := [(0, .ref (G.2.2.1 0)), (1, .int x1)]) rfl rfl (Nat.le_of_ble_eq_true rfl) rfl (fun X => ?_)
  unfold fX11_hold
  refine qr_iload_n (n := 1) 1 (dkX11_hold (i := 0) rfl) rfl rfl ?_
  refine qr_iconst (n := 2) 0 (dkX11_hold (i := 1) rfl) rfl (by decide) ?_
  refine qr_iconst (n := 3) 2 (dkX11_hold (i := 2) rfl) rfl (by decide) ?_
  refine qr_csi (n := 6) [.int x1, .int 0, .int 2] (dkX11_hold (i := 3) rfl) rfl kvX11_176 rfl rfl (Nat.le_of_ble_eq_true rfl) rfl rfl (wX11_within G S0 x1 0 2) (fun r_1 => ?_)
  refine qr_if_ne (t := 11) (n := 9) (dkX11_hold (i := 4) rfl) (by decide) rfl ?_ ?_
  · refine qr_aload_n (n := 12) 0 (dkX11_hold (i := 7) rfl) rfl rfl ?_
    refine qr_geta (n := 15) 0 6 238 (dkX11_hold (i := 8) rfl) rfl lkO_0 rfl gnX11 (Nat.le_of_ble_eq_true rfl) kfX11_53 rfl ?_
    refine qr_iload_n (n := 16) 1 (dkX11_hold (i := 9) rfl) rfl rfl ?_
    refine qr_aald (n := 17) 238 3 (rs := kSlots) (dkX11_hold (i := 10) rfl) rfl lkA_238 (fun b_1 hbb_1 => ?_)
    refine qr_aload_n (n := 18) 0 (dkX11_hold (i := 11) rfl) rfl rfl ?_
    refine qr_geta (n := 21) 0 4 31 (dkX11_hold (i := 12) rfl) rfl lkO_0 rfl gnX11 (Nat.le_of_ble_eq_true rfl) kfX11_42 rfl ?_
    refine qr_cvu (n := 24) b_1 [.ref (G.2.2.1 31)] (dkX11_hold (i := 13) rfl) rfl kvX11_329 rfl rfl (Nat.le_of_ble_eq_true rfl) rfl rfl (isSlots hbb_1).1 rfl (wX6_copy G S0 b_1 31 (isSlots hbb_1) isS_31) (fun S_1 => ?_)
    refine qr_aload_n (n := 25) 0 (dkX11_hold (i := 14) rfl) rfl rfl ?_
    refine qr_dup (n := 26) (dkX11_hold (i := 15) rfl) rfl rfl ?_
    refine qr_geti (n := 29) 0 7 (dkX11_hold (i := 16) rfl) rfl lkO_0 rfl gnX11 (Nat.le_of_ble_eq_true rfl) kfX11_332 rfl ?_
    refine qr_iconst (n := 30) 1 (dkX11_hold (i := 17) rfl) rfl (by decide) ?_
    refine qr_iload_n (n := 31) 1 (dkX11_hold (i := 18) rfl) rfl rfl ?_
    refine qr_ishl (n := 32) (dkX11_hold (i := 19) rfl) rfl ?_
    refine qr_ior (n := 33) (dkX11_hold (i := 20) rfl) rfl ?_
    refine qr_puti (n := 36) 0 7 (dkX11_hold (i := 21) rfl) rfl lkO_0 rfl gnX11 (Nat.le_of_ble_eq_true rfl) kfX11_332 rfl tyX11_ok nmX11 rfl rfl (fun S_2 => ?_)
    refine qr_iconst (n := 37) 1 (dkX11_hold (i := 22) rfl) rfl (by decide) ?_
    exact qr_zretc (dkX11_hold (i := 23) rfl) rfl rfl rfl
  · refine qr_iconst (n := 10) 0 (dkX11_hold (i := 5) rfl) rfl (by decide) ?_
    exact qr_zretc (dkX11_hold (i := 6) rfl) rfl rfl rfl
def tbX11_restore : List (Nat × Instr × Nat) := [(0, .iload_n 1, 1), (1, .iconst 0, 1), (2, .iconst 2, 1), (3, .invokestatic 176, 3), (6, .ifCond .eq 14, 3), (9, .aload_n 0, 1), (10, .getfield 332, 3), (13, .iload_n 1, 1), (14, .ishr, 1), (15, .iconst 1, 1), (16, .iand, 1), (17, .ifCond .ne 5, 3), (20, .iconst 0, 1), (21, .ireturn, 1), (22, .aload_n 0, 1), (23, .getfield 42, 3), (26, .aload_n 0, 1), (27, .getfield 53, 3), (30, .iload_n 1, 1), (31, .aaload, 1), (32, .invokevirtual 329, 3), (35, .aload_n 0, 1), (36, .getfield 49, 3), (39, .iconst 0, 1), (40, .putfield 233, 3), (43, .aload_n 0, 1), (44, .getfield 71, 3), (47, .invokevirtual 240, 3), (50, .iconst 1, 1), (51, .ireturn, 1)]
set_option maxRecDepth 20000 in
theorem daX11_restore : ∀ x ∈ tbX11_restore, decode cX11_restore x.1 = .ok x.2 := by decide +kernel
theorem dkX11_restore {i pc n : Nat} {ins : Instr} (h : tbX11_restore[i]? = some (pc, ins, n)) : decode cX11_restore pc = .ok (ins, n) := daX11_restore (pc, ins, n) (List.mem_of_getElem? h)
def fX11_restore (S0 : qv_St) (x1 : Int32) : Option (qv_St × Int32) :=
  (fX11_within x1 0 2).bind fun r_1 =>
  if r_1 = 0 then
    some (S0, 0)
  else
    if (((S0.1 0 7) >>> (x1 &&& 31)) &&& 1) = 0 then
      some (S0, 0)
    else
      qv_ck x1 3 <| (kSlots[Int32.toNatClampNeg x1]?).bind fun b_1 =>
      (fX6_copy S0 31 b_1).bind fun S_1 =>
      qv_b (qv_si S_1 36 2 0) fun S_2 =>
      (fX7_drop S_2).bind fun S_3 =>
      some (S_3, 1)
set_option maxRecDepth 20000 in
set_option maxHeartbeats 4000000 in
theorem wX11_restore (G : qv_GT) (S0 : qv_St) (x1 : Int32) : ∀ r, fX11_restore S0 x1 = some r → Cn G Lk yX11_restore cX11_restore 2 (some .boolean) 3 [.ref (G.2.2.1 0), .int x1] S0 (qe_m r) := by
  refine cn_of (own := RX11) (emb := qe_m) (lv := [(0, .ref (G.2.2.1 0)), (1, .int x1)]) rfl rfl (Nat.le_of_ble_eq_true rfl) rfl (fun X => ?_)
  unfold fX11_restore
  refine qr_iload_n (n := 1) 1 (dkX11_restore (i := 0) rfl) rfl rfl ?_
  refine qr_iconst (n := 2) 0 (dkX11_restore (i := 1) rfl) rfl (by decide) ?_
  refine qr_iconst (n := 3) 2 (dkX11_restore (i := 2) rfl) rfl (by decide) ?_
  refine qr_csi (n := 6) [.int x1, .int 0, .int 2] (dkX11_restore (i := 3) rfl) rfl kvX11_176 rfl rfl (Nat.le_of_ble_eq_true rfl) rfl rfl (wX11_within G S0 x1 0 2) (fun r_1 => ?_)
  refine qr_if_eq (t := 20) (n := 9) (dkX11_restore (i := 4) rfl) (by decide) rfl ?_ ?_
  · refine qr_iconst (n := 21) 0 (dkX11_restore (i := 12) rfl) rfl (by decide) ?_
    exact qr_zretc (dkX11_restore (i := 13) rfl) rfl rfl rfl
  · refine qr_aload_n (n := 10) 0 (dkX11_restore (i := 5) rfl) rfl rfl ?_
    refine qr_geti (n := 13) 0 7 (dkX11_restore (i := 6) rfl) rfl lkO_0 rfl gnX11 (Nat.le_of_ble_eq_true rfl) kfX11_332 rfl ?_
    refine qr_iload_n (n := 14) 1 (dkX11_restore (i := 7) rfl) rfl rfl ?_
    refine qr_ishr (n := 15) (dkX11_restore (i := 8) rfl) rfl ?_
    refine qr_iconst (n := 16) 1 (dkX11_restore (i := 9) rfl) rfl (by decide) ?_
    refine qr_iand (n := 17) (dkX11_restore (i := 10) rfl) rfl ?_
    refine qr_if_ne (t := 22) (n := 20) (dkX11_restore (i := 11) rfl) (by decide) rfl ?_ ?_
    · refine qr_aload_n (n := 23) 0 (dkX11_restore (i := 14) rfl) rfl rfl ?_
      refine qr_geta (n := 26) 0 4 31 (dkX11_restore (i := 15) rfl) rfl lkO_0 rfl gnX11 (Nat.le_of_ble_eq_true rfl) kfX11_42 rfl ?_
      refine qr_aload_n (n := 27) 0 (dkX11_restore (i := 16) rfl) rfl rfl ?_
      refine qr_geta (n := 30) 0 6 238 (dkX11_restore (i := 17) rfl) rfl lkO_0 rfl gnX11 (Nat.le_of_ble_eq_true rfl) kfX11_53 rfl ?_
      refine qr_iload_n (n := 31) 1 (dkX11_restore (i := 18) rfl) rfl rfl ?_
      refine qr_aald (n := 32) 238 3 (rs := kSlots) (dkX11_restore (i := 19) rfl) rfl lkA_238 (fun b_1 hbb_1 => ?_)
      refine qr_cvu (n := 35) 31 [.ref (G.2.2.1 b_1)] (dkX11_restore (i := 20) rfl) rfl kvX11_329 rfl rfl (Nat.le_of_ble_eq_true rfl) rfl rfl lkO_31 rfl (wX6_copy G S0 31 b_1 isS_31 (isSlots hbb_1)) (fun S_1 => ?_)
      refine qr_aload_n (n := 36) 0 (dkX11_restore (i := 21) rfl) rfl rfl ?_
      refine qr_geta (n := 39) 0 5 36 (dkX11_restore (i := 22) rfl) rfl lkO_0 rfl gnX11 (Nat.le_of_ble_eq_true rfl) kfX11_49 rfl ?_
      refine qr_iconst (n := 40) 0 (dkX11_restore (i := 23) rfl) rfl (by decide) ?_
      refine qr_puti (n := 43) 36 2 (dkX11_restore (i := 24) rfl) rfl lkO_36 rfl gnX1 (Nat.le_of_ble_eq_true rfl) kfX11_233 rfl tyX1_ok nmX1 rfl rfl (fun S_2 => ?_)
      refine qr_aload_n (n := 44) 0 (dkX11_restore (i := 25) rfl) rfl rfl ?_
      refine qr_geta (n := 47) 0 9 260 (dkX11_restore (i := 26) rfl) rfl lkO_0 rfl gnX11 (Nat.le_of_ble_eq_true rfl) kfX11_71 rfl ?_
      refine qr_cvu (n := 50) 260 [] (dkX11_restore (i := 27) rfl) rfl kvX11_240 rfl rfl (Nat.le_of_ble_eq_true rfl) rfl rfl lkO_260 rfl (wX7_drop G S_2) (fun S_3 => ?_)
      refine qr_iconst (n := 51) 1 (dkX11_restore (i := 28) rfl) rfl (by decide) ?_
      exact qr_zretc (dkX11_restore (i := 29) rfl) rfl rfl rfl
    · refine qr_iconst (n := 21) 0 (dkX11_restore (i := 12) rfl) rfl (by decide) ?_
      exact qr_zretc (dkX11_restore (i := 13) rfl) rfl rfl rfl
def tbX11_doneBits : List (Nat × Instr × Nat) := [(0, .iconst 0, 1), (1, .istore_n 1, 1), (2, .iconst 0, 1), (3, .istore_n 2, 1), (4, .iload_n 2, 1), (5, .aload_n 0, 1), (6, .getfield 35, 3), (9, .getfield 335, 3), (12, .if_icmp .ge 30, 3), (15, .aload_n 0, 1), (16, .getfield 42, 3), (19, .iload_n 2, 1), (20, .aload_n 0, 1), (21, .getfield 35, 3), (24, .invokevirtual 163, 3), (27, .ifCond .eq 9, 3), (30, .iload_n 1, 1), (31, .iconst 1, 1), (32, .iload_n 2, 1), (33, .ishl, 1), (34, .ior, 1), (35, .istore_n 1, 1), (36, .iinc 2 1, 3), (39, .goto (-35), 3), (42, .iload_n 1, 1), (43, .ireturn, 1)]
set_option maxRecDepth 20000 in
theorem daX11_doneBits : ∀ x ∈ tbX11_doneBits, decode cX11_doneBits x.1 = .ok x.2 := by decide +kernel
theorem dkX11_doneBits {i pc n : Nat} {ins : Instr} (h : tbX11_doneBits[i]? = some (pc, ins, n)) : decode cX11_doneBits pc = .ok (ins, n) := daX11_doneBits (pc, ins, n) (List.mem_of_getElem? h)
def fX11_doneBits (S0 : qv_St) : Option Int32 :=
  qv_lp2 qv_N (fun self_1 (x1_1 : Int32) (x2_1 : Int32) =>
    if (S0.1 9 2) ≤ x2_1 then
      some x1_1
    else
      (fX6_isDone S0 31 x2_1).bind fun r_1 =>
      qv_j (fun (x1_2 : Int32) =>
        self_1 x1_2 (x2_1 + 1)) fun K_1 =>
      if r_1 = 0 then
        K_1 x1_1
      else
        qv_b ((x1_1 ||| (1 <<< (x2_1 &&& 31))) : Int32) fun x1_3 =>
        K_1 x1_3) 0 0
set_option maxRecDepth 20000 in
set_option maxHeartbeats 4000000 in
theorem wX11_doneBits (G : qv_GT) (S0 : qv_St) : ∀ r, fX11_doneBits S0 = some r → Cn G Lk yX11_doneBits cX11_doneBits 3 (some .int) 3 [.ref (G.2.2.1 0)] S0 ((qe_i S0) r) := by
  refine cn_of (own := RX11) (emb := (qe_i S0)) (lv := [(0, .ref (G.2.2.1 0))]) rfl rfl (Nat.le_of_ble_eq_true rfl) rfl (fun X => ?_)
  unfold fX11_doneBits
  refine qr_iconst (n := 1) 0 (dkX11_doneBits (i := 0) rfl) rfl (by decide) ?_
  refine qr_istore_n (n := 2) (lv2 := [(0, .ref (G.2.2.1 0)), (1, .int 0)]) [1, 0] (dkX11_doneBits (i := 1) rfl) rfl rfl (by decide) rfl ?_
  refine qr_iconst (n := 3) 0 (dkX11_doneBits (i := 2) rfl) rfl (by decide) ?_
  refine qr_istore_n (n := 4) (lv2 := [(0, .ref (G.2.2.1 0)), (1, .int 0), (2, .int 0)]) [1, 2, 0] (dkX11_doneBits (i := 3) rfl) rfl rfl (by decide) rfl ?_
  refine qr_lp2 (fun (x1_1 : Int32) (x2_1 : Int32) => [(0, .ref (G.2.2.1 0)), (1, .int x1_1), (2, .int x2_1)]) (fun (x1_1 : Int32) (x2_1 : Int32) => S0) (fun self_1 hself_1 x1_1 x2_1 => ?_) qv_N 0 0
  refine qr_iload_n (n := 5) 2 (dkX11_doneBits (i := 4) rfl) rfl rfl ?_
  refine qr_aload_n (n := 6) 0 (dkX11_doneBits (i := 5) rfl) rfl rfl ?_
  refine qr_geta (n := 9) 0 3 9 (dkX11_doneBits (i := 6) rfl) rfl lkO_0 rfl gnX11 (Nat.le_of_ble_eq_true rfl) kfX11_35 rfl ?_
  refine qr_geti (n := 12) 9 2 (dkX11_doneBits (i := 7) rfl) rfl lkO_9 rfl gnX5 (Nat.le_of_ble_eq_true rfl) kfX11_335 rfl ?_
  refine qr_icmp_ge (t := 42) (n := 15) (dkX11_doneBits (i := 8) rfl) (by decide) rfl ?_ ?_
  · refine qr_iload_n (n := 43) 1 (dkX11_doneBits (i := 24) rfl) rfl rfl ?_
    exact qr_iret (dkX11_doneBits (i := 25) rfl) rfl rfl
  · refine qr_aload_n (n := 16) 0 (dkX11_doneBits (i := 9) rfl) rfl rfl ?_
    refine qr_geta (n := 19) 0 4 31 (dkX11_doneBits (i := 10) rfl) rfl lkO_0 rfl gnX11 (Nat.le_of_ble_eq_true rfl) kfX11_42 rfl ?_
    refine qr_iload_n (n := 20) 2 (dkX11_doneBits (i := 11) rfl) rfl rfl ?_
    refine qr_aload_n (n := 21) 0 (dkX11_doneBits (i := 12) rfl) rfl rfl ?_
    refine qr_geta (n := 24) 0 3 9 (dkX11_doneBits (i := 13) rfl) rfl lkO_0 rfl gnX11 (Nat.le_of_ble_eq_true rfl) kfX11_35 rfl ?_
    refine qr_cvi (n := 27) 31 [.int x2_1, .ref (G.2.2.1 9)] (dkX11_doneBits (i := 14) rfl) rfl kvX11_163 rfl rfl (Nat.le_of_ble_eq_true rfl) rfl rfl lkO_31 rfl (wX6_isDone G S0 31 x2_1 isS_31) (fun r_1 => ?_)
    refine qr_j (fun K_1 : Int32 → Option Int32 => ∀ (x1_2 : Int32), VV G Lk X RX11 cX11_doneBits 3 (some .int) 3 (qe_i S0) 36 [(0, .ref (G.2.2.1 0)), (1, .int x1_2), (2, .int x2_1)] [] S0 (K_1 x1_2)) (fun x1_2 => ?_) (fun K_1 hK_1 => ?_)
    · refine qr_iinc (n := 39) (v := 1) (lv2 := [(0, .ref (G.2.2.1 0)), (1, .int x1_2), (2, .int (x2_1 + 1))]) 2 [1, 2, 0] (dkX11_doneBits (i := 22) rfl) rfl rfl (by decide) (by decide) rfl ?_
      refine qr_goto (n := 4) (dkX11_doneBits (i := 23) rfl) (by decide) ?_
      exact hself_1 x1_2 (x2_1 + 1)
    · refine qr_if_eq (t := 36) (n := 30) (dkX11_doneBits (i := 15) rfl) (by decide) rfl ?_ ?_
      · exact hK_1 x1_1
      · refine qr_iload_n (n := 31) 1 (dkX11_doneBits (i := 16) rfl) rfl rfl ?_
        refine qr_iconst (n := 32) 1 (dkX11_doneBits (i := 17) rfl) rfl (by decide) ?_
        refine qr_iload_n (n := 33) 2 (dkX11_doneBits (i := 18) rfl) rfl rfl ?_
        refine qr_ishl (n := 34) (dkX11_doneBits (i := 19) rfl) rfl ?_
        refine qr_ior (n := 35) (dkX11_doneBits (i := 20) rfl) rfl ?_
        refine qr_b (α := Int32) (x1_1 ||| (1 <<< (x2_1 &&& 31))) (lvf := fun _ => [(0, .ref (G.2.2.1 0)), (1, .int x1_1), (2, .int x2_1)]) (stf := fun z => .int z :: []) (Sf := fun _ => S0) (fun x1_3 => ?_)
        refine qr_istore_n (n := 36) (lv2 := [(0, .ref (G.2.2.1 0)), (1, .int x1_3), (2, .int x2_1)]) [1, 0, 2] (dkX11_doneBits (i := 21) rfl) rfl rfl (by decide) rfl ?_
        exact hK_1 x1_3
def tbX11_onBits : List (Nat × Instr × Nat) := [(0, .iconst 0, 1), (1, .istore_n 1, 1), (2, .iconst 0, 1), (3, .istore_n 2, 1), (4, .iload_n 2, 1), (5, .aload_n 0, 1), (6, .getfield 35, 3), (9, .getfield 285, 3), (12, .if_icmp .ge 23, 3), (15, .aload_n 0, 1), (16, .iload_n 2, 1), (17, .invokevirtual 138, 3), (20, .ifCond .lt 9, 3), (23, .iload_n 1, 1), (24, .iconst 1, 1), (25, .iload_n 2, 1), (26, .ishl, 1), (27, .ior, 1), (28, .istore_n 1, 1), (29, .iinc 2 1, 3), (32, .goto (-28), 3), (35, .iload_n 1, 1), (36, .ireturn, 1)]
set_option maxRecDepth 20000 in
theorem daX11_onBits : ∀ x ∈ tbX11_onBits, decode cX11_onBits x.1 = .ok x.2 := by decide +kernel
theorem dkX11_onBits {i pc n : Nat} {ins : Instr} (h : tbX11_onBits[i]? = some (pc, ins, n)) : decode cX11_onBits pc = .ok (ins, n) := daX11_onBits (pc, ins, n) (List.mem_of_getElem? h)
def fX11_onBits (S0 : qv_St) : Option (qv_St × Int32) :=
  qv_lp3 qv_N (fun self_1 (S_1 : qv_St) (x1_1 : Int32) (x2_1 : Int32) =>
    if (S_1.1 9 0) ≤ x2_1 then
      some (S_1, x1_1)
    else
      qv_cm (fX11_ageNow S_1 x2_1) fun S_2 r_1 =>
      qv_j (fun (x1_2 : Int32) =>
        self_1 S_2 x1_2 (x2_1 + 1)) fun K_1 =>
      if r_1 < 0 then
        K_1 x1_1
      else
        qv_b ((x1_1 ||| (1 <<< (x2_1 &&& 31))) : Int32) fun x1_3 =>
        K_1 x1_3) S0 0 0
set_option maxRecDepth 20000 in
set_option maxHeartbeats 4000000 in
theorem wX11_onBits (G : qv_GT) (S0 : qv_St) : ∀ r, fX11_onBits S0 = some r → Cn G Lk yX11_onBits cX11_onBits 3 (some .int) 5 [.ref (G.2.2.1 0)] S0 (qe_m r) := by
  refine cn_of (own := RX11) (emb := qe_m) (lv := [(0, .ref (G.2.2.1 0))]) rfl rfl (Nat.le_of_ble_eq_true rfl) rfl (fun X => ?_)
  unfold fX11_onBits
  refine qr_iconst (n := 1) 0 (dkX11_onBits (i := 0) rfl) rfl (by decide) ?_
  refine qr_istore_n (n := 2) (lv2 := [(0, .ref (G.2.2.1 0)), (1, .int 0)]) [1, 0] (dkX11_onBits (i := 1) rfl) rfl rfl (by decide) rfl ?_
  refine qr_iconst (n := 3) 0 (dkX11_onBits (i := 2) rfl) rfl (by decide) ?_
  refine qr_istore_n (n := 4) (lv2 := [(0, .ref (G.2.2.1 0)), (1, .int 0), (2, .int 0)]) [1, 2, 0] (dkX11_onBits (i := 3) rfl) rfl rfl (by decide) rfl ?_
  refine qr_lp3 (fun (S_1 : qv_St) (x1_1 : Int32) (x2_1 : Int32) => [(0, .ref (G.2.2.1 0)), (1, .int x1_1), (2, .int x2_1)]) (fun (S_1 : qv_St) (x1_1 : Int32) (x2_1 : Int32) => S_1) (fun self_1 hself_1 S_1 x1_1 x2_1 => ?_) qv_N S0 0 0
  refine qr_iload_n (n := 5) 2 (dkX11_onBits (i := 4) rfl) rfl rfl ?_
  refine qr_aload_n (n := 6) 0 (dkX11_onBits (i := 5) rfl) rfl rfl ?_
  refine qr_geta (n := 9) 0 3 9 (dkX11_onBits (i := 6) rfl) rfl lkO_0 rfl gnX11 (Nat.le_of_ble_eq_true rfl) kfX11_35 rfl ?_
  refine qr_geti (n := 12) 9 0 (dkX11_onBits (i := 7) rfl) rfl lkO_9 rfl gnX5 (Nat.le_of_ble_eq_true rfl) kfX11_285 rfl ?_
  refine qr_icmp_ge (t := 35) (n := 15) (dkX11_onBits (i := 8) rfl) (by decide) rfl ?_ ?_
  · refine qr_iload_n (n := 36) 1 (dkX11_onBits (i := 21) rfl) rfl rfl ?_
    exact qr_iret (dkX11_onBits (i := 22) rfl) rfl rfl
  · refine qr_aload_n (n := 16) 0 (dkX11_onBits (i := 9) rfl) rfl rfl ?_
    refine qr_iload_n (n := 17) 2 (dkX11_onBits (i := 10) rfl) rfl rfl ?_
    refine qr_cvm (n := 20) 0 [.int x2_1] (dkX11_onBits (i := 11) rfl) rfl kvX11_138 rfl rfl (Nat.le_of_ble_eq_true rfl) rfl rfl lkO_0 rfl (wX11_ageNow G S_1 x2_1) (fun S_2 r_1 => ?_)
    refine qr_j (fun K_1 : Int32 → Option (qv_St × Int32) => ∀ (x1_2 : Int32), VV G Lk X RX11 cX11_onBits 3 (some .int) 5 qe_m 29 [(0, .ref (G.2.2.1 0)), (1, .int x1_2), (2, .int x2_1)] [] S_2 (K_1 x1_2)) (fun x1_2 => ?_) (fun K_1 hK_1 => ?_)
    · refine qr_iinc (n := 32) (v := 1) (lv2 := [(0, .ref (G.2.2.1 0)), (1, .int x1_2), (2, .int (x2_1 + 1))]) 2 [1, 2, 0] (dkX11_onBits (i := 19) rfl) rfl rfl (by decide) (by decide) rfl ?_
      refine qr_goto (n := 4) (dkX11_onBits (i := 20) rfl) (by decide) ?_
      exact hself_1 S_2 x1_2 (x2_1 + 1)
    · refine qr_if_lt (t := 29) (n := 23) (dkX11_onBits (i := 12) rfl) (by decide) rfl ?_ ?_
      · exact hK_1 x1_1
      · refine qr_iload_n (n := 24) 1 (dkX11_onBits (i := 13) rfl) rfl rfl ?_
        refine qr_iconst (n := 25) 1 (dkX11_onBits (i := 14) rfl) rfl (by decide) ?_
        refine qr_iload_n (n := 26) 2 (dkX11_onBits (i := 15) rfl) rfl rfl ?_
        refine qr_ishl (n := 27) (dkX11_onBits (i := 16) rfl) rfl ?_
        refine qr_ior (n := 28) (dkX11_onBits (i := 17) rfl) rfl ?_
        refine qr_b (α := Int32) (x1_1 ||| (1 <<< (x2_1 &&& 31))) (lvf := fun _ => [(0, .ref (G.2.2.1 0)), (1, .int x1_1), (2, .int x2_1)]) (stf := fun z => .int z :: []) (Sf := fun _ => S_2) (fun x1_3 => ?_)
        refine qr_istore_n (n := 29) (lv2 := [(0, .ref (G.2.2.1 0)), (1, .int x1_3), (2, .int x2_1)]) [1, 0, 2] (dkX11_onBits (i := 18) rfl) rfl rfl (by decide) rfl ?_
        exact hK_1 x1_3
def tbX11_count : List (Nat × Instr × Nat) := [(0, .iload_n 1, 1), (1, .tableswitch 177 0 13 #[71, 79, 87, 95, 103, 111, 119, 127, 132, 140, 148, 156, 164, 172], 71), (72, .aload_n 0, 1), (73, .getfield 35, 3), (76, .getfield 285, 3), (79, .ireturn, 1), (80, .aload_n 0, 1), (81, .getfield 35, 3), (84, .getfield 196, 3), (87, .ireturn, 1), (88, .aload_n 0, 1), (89, .getfield 35, 3), (92, .getfield 335, 3), (95, .ireturn, 1), (96, .aload_n 0, 1), (97, .getfield 42, 3), (100, .getfield 190, 3), (103, .ireturn, 1), (104, .aload_n 0, 1), (105, .getfield 42, 3), (108, .getfield 199, 3), (111, .ireturn, 1), (112, .aload_n 0, 1), (113, .getfield 42, 3), (116, .getfield 219, 3), (119, .ireturn, 1), (120, .aload_n 0, 1), (121, .getfield 42, 3), (124, .getfield 225, 3), (127, .ireturn, 1), (128, .aload_n 0, 1), (129, .invokevirtual 338, 3), (132, .ireturn, 1), (133, .aload_n 0, 1), (134, .getfield 42, 3), (137, .invokevirtual 341, 3), (140, .ireturn, 1), (141, .aload_n 0, 1), (142, .getfield 10, 3), (145, .getfield 96, 3), (148, .ireturn, 1), (149, .aload_n 0, 1), (150, .getfield 49, 3), (153, .getfield 233, 3), (156, .ireturn, 1), (157, .aload_n 0, 1), (158, .getfield 89, 3), (161, .getfield 317, 3), (164, .ireturn, 1), (165, .aload_n 0, 1), (166, .getfield 332, 3), (169, .invokestatic 294, 3), (172, .ireturn, 1), (173, .aload_n 0, 1), (174, .invokevirtual 344, 3), (177, .ireturn, 1), (178, .iconst (-1), 1), (179, .ireturn, 1)]
set_option maxRecDepth 20000 in
theorem daX11_count : ∀ x ∈ tbX11_count, decode cX11_count x.1 = .ok x.2 := by decide +kernel
theorem dkX11_count {i pc n : Nat} {ins : Instr} (h : tbX11_count[i]? = some (pc, ins, n)) : decode cX11_count pc = .ok (ins, n) := daX11_count (pc, ins, n) (List.mem_of_getElem? h)
def fX11_count (S0 : qv_St) (x1 : Int32) : Option (qv_St × Int32) :=
  qv_sw x1 0 13 [
    some (S0, (S0.1 9 0)),
    some (S0, (S0.1 9 1)),
    some (S0, (S0.1 9 2)),
    some (S0, (S0.1 31 0)),
    some (S0, (S0.1 31 1)),
    some (S0, (S0.1 31 2)),
    some (S0, (S0.1 31 3)),
    (fX11_doneBits S0).bind fun r_1 =>
    some (S0, r_1),
    (fX6_allTakes S0 31).bind fun r_2 =>
    some (S0, r_2),
    some (S0, (S0.1 1 1)),
    some (S0, (S0.1 36 2)),
    some (S0, (S0.1 268 3)),
    (fJ6_bitCount_0f7a4 (S0.1 0 7)).bind fun r_3 =>
    some (S0, r_3),
    qv_cm (fX11_onBits S0) fun S_1 r_4 =>
    some (S_1, r_4)] (
    some (S0, (-1)))
set_option maxRecDepth 20000 in
set_option maxHeartbeats 4000000 in
theorem wX11_count (G : qv_GT) (S0 : qv_St) (x1 : Int32) : ∀ r, fX11_count S0 x1 = some r → Cn G Lk yX11_count cX11_count 2 (some .int) 6 [.ref (G.2.2.1 0), .int x1] S0 (qe_m r) := by
  refine cn_of (own := RX11) (emb := qe_m) (lv := [(0, .ref (G.2.2.1 0)), (1, .int x1)]) rfl rfl (Nat.le_of_ble_eq_true rfl) rfl (fun X => ?_)
  unfold fX11_count
  refine qr_iload_n (n := 1) 1 (dkX11_count (i := 0) rfl) rfl rfl ?_
  refine qr_sw (td := 178) (dkX11_count (i := 1) rfl) (by decide) ?_ ⟨⟨72, by decide, ?_⟩, ⟨80, by decide, ?_⟩, ⟨88, by decide, ?_⟩, ⟨96, by decide, ?_⟩, ⟨104, by decide, ?_⟩, ⟨112, by decide, ?_⟩, ⟨120, by decide, ?_⟩, ⟨128, by decide, ?_⟩, ⟨133, by decide, ?_⟩, ⟨141, by decide, ?_⟩, ⟨149, by decide, ?_⟩, ⟨157, by decide, ?_⟩, ⟨165, by decide, ?_⟩, ⟨173, by decide, ?_⟩, trivial⟩
  · refine qr_iconst (n := 179) (-1) (dkX11_count (i := 56) rfl) rfl (by decide) ?_
    exact qr_iret (dkX11_count (i := 57) rfl) rfl rfl
  · refine qr_aload_n (n := 73) 0 (dkX11_count (i := 2) rfl) rfl rfl ?_
    refine qr_geta (n := 76) 0 3 9 (dkX11_count (i := 3) rfl) rfl lkO_0 rfl gnX11 (Nat.le_of_ble_eq_true rfl) kfX11_35 rfl ?_
    refine qr_geti (n := 79) 9 0 (dkX11_count (i := 4) rfl) rfl lkO_9 rfl gnX5 (Nat.le_of_ble_eq_true rfl) kfX11_285 rfl ?_
    exact qr_iret (dkX11_count (i := 5) rfl) rfl rfl
  · refine qr_aload_n (n := 81) 0 (dkX11_count (i := 6) rfl) rfl rfl ?_
    refine qr_geta (n := 84) 0 3 9 (dkX11_count (i := 7) rfl) rfl lkO_0 rfl gnX11 (Nat.le_of_ble_eq_true rfl) kfX11_35 rfl ?_
    refine qr_geti (n := 87) 9 1 (dkX11_count (i := 8) rfl) rfl lkO_9 rfl gnX5 (Nat.le_of_ble_eq_true rfl) kfX11_196 rfl ?_
    exact qr_iret (dkX11_count (i := 9) rfl) rfl rfl
  · refine qr_aload_n (n := 89) 0 (dkX11_count (i := 10) rfl) rfl rfl ?_
    refine qr_geta (n := 92) 0 3 9 (dkX11_count (i := 11) rfl) rfl lkO_0 rfl gnX11 (Nat.le_of_ble_eq_true rfl) kfX11_35 rfl ?_
    refine qr_geti (n := 95) 9 2 (dkX11_count (i := 12) rfl) rfl lkO_9 rfl gnX5 (Nat.le_of_ble_eq_true rfl) kfX11_335 rfl ?_
    exact qr_iret (dkX11_count (i := 13) rfl) rfl rfl
  · refine qr_aload_n (n := 97) 0 (dkX11_count (i := 14) rfl) rfl rfl ?_
    refine qr_geta (n := 100) 0 4 31 (dkX11_count (i := 15) rfl) rfl lkO_0 rfl gnX11 (Nat.le_of_ble_eq_true rfl) kfX11_42 rfl ?_
    refine qr_geti (n := 103) 31 0 (dkX11_count (i := 16) rfl) rfl lkO_31 rfl gnX6 (Nat.le_of_ble_eq_true rfl) kfX11_190 rfl ?_
    exact qr_iret (dkX11_count (i := 17) rfl) rfl rfl
  · refine qr_aload_n (n := 105) 0 (dkX11_count (i := 18) rfl) rfl rfl ?_
    refine qr_geta (n := 108) 0 4 31 (dkX11_count (i := 19) rfl) rfl lkO_0 rfl gnX11 (Nat.le_of_ble_eq_true rfl) kfX11_42 rfl ?_
    refine qr_geti (n := 111) 31 1 (dkX11_count (i := 20) rfl) rfl lkO_31 rfl gnX6 (Nat.le_of_ble_eq_true rfl) kfX11_199 rfl ?_
    exact qr_iret (dkX11_count (i := 21) rfl) rfl rfl
  · refine qr_aload_n (n := 113) 0 (dkX11_count (i := 22) rfl) rfl rfl ?_
    refine qr_geta (n := 116) 0 4 31 (dkX11_count (i := 23) rfl) rfl lkO_0 rfl gnX11 (Nat.le_of_ble_eq_true rfl) kfX11_42 rfl ?_
    refine qr_geti (n := 119) 31 2 (dkX11_count (i := 24) rfl) rfl lkO_31 rfl gnX6 (Nat.le_of_ble_eq_true rfl) kfX11_219 rfl ?_
    exact qr_iret (dkX11_count (i := 25) rfl) rfl rfl
  · refine qr_aload_n (n := 121) 0 (dkX11_count (i := 26) rfl) rfl rfl ?_
    refine qr_geta (n := 124) 0 4 31 (dkX11_count (i := 27) rfl) rfl lkO_0 rfl gnX11 (Nat.le_of_ble_eq_true rfl) kfX11_42 rfl ?_
    refine qr_geti (n := 127) 31 3 (dkX11_count (i := 28) rfl) rfl lkO_31 rfl gnX6 (Nat.le_of_ble_eq_true rfl) kfX11_225 rfl ?_
    exact qr_iret (dkX11_count (i := 29) rfl) rfl rfl
  · refine qr_aload_n (n := 129) 0 (dkX11_count (i := 30) rfl) rfl rfl ?_
    refine qr_cvi (n := 132) 0 [] (dkX11_count (i := 31) rfl) rfl kvX11_338 rfl rfl (Nat.le_of_ble_eq_true rfl) rfl rfl lkO_0 rfl (wX11_doneBits G S0) (fun r_1 => ?_)
    exact qr_iret (dkX11_count (i := 32) rfl) rfl rfl
  · refine qr_aload_n (n := 134) 0 (dkX11_count (i := 33) rfl) rfl rfl ?_
    refine qr_geta (n := 137) 0 4 31 (dkX11_count (i := 34) rfl) rfl lkO_0 rfl gnX11 (Nat.le_of_ble_eq_true rfl) kfX11_42 rfl ?_
    refine qr_cvi (n := 140) 31 [] (dkX11_count (i := 35) rfl) rfl kvX11_341 rfl rfl (Nat.le_of_ble_eq_true rfl) rfl rfl lkO_31 rfl (wX6_allTakes G S0 31 isS_31) (fun r_2 => ?_)
    exact qr_iret (dkX11_count (i := 36) rfl) rfl rfl
  · refine qr_aload_n (n := 142) 0 (dkX11_count (i := 37) rfl) rfl rfl ?_
    refine qr_geta (n := 145) 0 0 1 (dkX11_count (i := 38) rfl) rfl lkO_0 rfl gnX11 (Nat.le_of_ble_eq_true rfl) kfX11_10 rfl ?_
    refine qr_geti (n := 148) 1 1 (dkX11_count (i := 39) rfl) rfl lkO_1 rfl gnX8 (Nat.le_of_ble_eq_true rfl) kfX11_96 rfl ?_
    exact qr_iret (dkX11_count (i := 40) rfl) rfl rfl
  · refine qr_aload_n (n := 150) 0 (dkX11_count (i := 41) rfl) rfl rfl ?_
    refine qr_geta (n := 153) 0 5 36 (dkX11_count (i := 42) rfl) rfl lkO_0 rfl gnX11 (Nat.le_of_ble_eq_true rfl) kfX11_49 rfl ?_
    refine qr_geti (n := 156) 36 2 (dkX11_count (i := 43) rfl) rfl lkO_36 rfl gnX1 (Nat.le_of_ble_eq_true rfl) kfX11_233 rfl ?_
    exact qr_iret (dkX11_count (i := 44) rfl) rfl rfl
  · refine qr_aload_n (n := 158) 0 (dkX11_count (i := 45) rfl) rfl rfl ?_
    refine qr_geta (n := 161) 0 11 268 (dkX11_count (i := 46) rfl) rfl lkO_0 rfl gnX11 (Nat.le_of_ble_eq_true rfl) kfX11_89 rfl ?_
    refine qr_geti (n := 164) 268 3 (dkX11_count (i := 47) rfl) rfl lkO_268 rfl gnX10 (Nat.le_of_ble_eq_true rfl) kfX11_317 rfl ?_
    exact qr_iret (dkX11_count (i := 48) rfl) rfl rfl
  · refine qr_aload_n (n := 166) 0 (dkX11_count (i := 49) rfl) rfl rfl ?_
    refine qr_geti (n := 169) 0 7 (dkX11_count (i := 50) rfl) rfl lkO_0 rfl gnX11 (Nat.le_of_ble_eq_true rfl) kfX11_332 rfl ?_
    refine qr_csi (n := 172) [.int (S0.1 0 7)] (dkX11_count (i := 51) rfl) rfl kvX11_294 rfl rfl (Nat.le_of_ble_eq_true rfl) rfl rfl (wJ6_bitCount_0f7a4 G S0 (S0.1 0 7)) (fun r_3 => ?_)
    exact qr_iret (dkX11_count (i := 52) rfl) rfl rfl
  · refine qr_aload_n (n := 174) 0 (dkX11_count (i := 53) rfl) rfl rfl ?_
    refine qr_cvm (n := 177) 0 [] (dkX11_count (i := 54) rfl) rfl kvX11_344 rfl rfl (Nat.le_of_ble_eq_true rfl) rfl rfl lkO_0 rfl (wX11_onBits G S0) (fun S_1 r_4 => ?_)
    exact qr_iret (dkX11_count (i := 55) rfl) rfl rfl
