def tbX12_put : List (Nat × Instr × Nat) := [(0, .bipush 24, 2), (2, .istore_n 2, 1), (3, .iload_n 2, 1), (4, .ifCond .lt 32, 3), (7, .aload_n 0, 1), (8, .getfield 13, 3), (11, .aload_n 0, 1), (12, .getfield 175, 3), (15, .iload_n 1, 1), (16, .iload_n 2, 1), (17, .ishr, 1), (18, .i2b, 1), (19, .bastore, 1), (20, .aload_n 0, 1), (21, .dup, 1), (22, .getfield 175, 3), (25, .iconst 1, 1), (26, .iadd, 1), (27, .putfield 175, 3), (30, .iinc 2 (-8), 3), (33, .goto (-30), 3), (36, .return_, 1)]
set_option maxRecDepth 20000 in
theorem daX12_put : ∀ x ∈ tbX12_put, decode cX12_put x.1 = .ok x.2 := by decide +kernel
theorem dkX12_put {i pc n : Nat} {ins : Instr} (h : tbX12_put[i]? = some (pc, ins, n)) : decode cX12_put pc = .ok (ins, n) := daX12_put (pc, ins, n) (List.mem_of_getElem? h)
def fX12_put (S0 : qv_St) (x1 : Int32) : Option qv_St :=
  qv_lp2 qv_N (fun self_1 (S_1 : qv_St) (x2_1 : Int32) =>
    if x2_1 < 0 then
      some S_1
    else
      qv_ck (S_1.1 0 2) 2000 <| qv_b (qv_si S_1 1 (Int32.toNatClampNeg (S_1.1 0 2)) (vp_nar .byte ((Int32.toInt8 (x1 >>> (x2_1 &&& 31))).toInt32))) fun S_2 =>
      qv_b (qv_si S_2 0 2 ((S_2.1 0 2) + 1)) fun S_3 =>
      self_1 S_3 (x2_1 + (-8))) S0 24
set_option maxRecDepth 20000 in
set_option maxHeartbeats 4000000 in
theorem wX12_put (G : qv_GT) (S0 : qv_St) (x1 : Int32) : ∀ r, fX12_put S0 x1 = some r → Cn G Lm yX12_put cX12_put 3 none 1 [.ref (G.2.2.1 0), .int x1] S0 (qe_u r) := by
  refine cn_of (own := RX12) (emb := qe_u) (lv := [(0, .ref (G.2.2.1 0)), (1, .int x1)]) rfl rfl (Nat.le_of_ble_eq_true rfl) rfl (fun X => ?_)
  unfold fX12_put
  refine qr_bipush (n := 2) 24 (dkX12_put (i := 0) rfl) rfl (by decide) ?_
  refine qr_istore_n (n := 3) (lv2 := [(0, .ref (G.2.2.1 0)), (1, .int x1), (2, .int 24)]) [1, 2, 0] (dkX12_put (i := 1) rfl) rfl rfl (by decide) rfl ?_
  refine qr_lp2 (fun (S_1 : qv_St) (x2_1 : Int32) => [(0, .ref (G.2.2.1 0)), (1, .int x1), (2, .int x2_1)]) (fun (S_1 : qv_St) (x2_1 : Int32) => S_1) (fun self_1 hself_1 S_1 x2_1 => ?_) qv_N S0 24
  refine qr_iload_n (n := 4) 2 (dkX12_put (i := 2) rfl) rfl rfl ?_
  refine qr_if_lt (t := 36) (n := 7) (dkX12_put (i := 3) rfl) (by decide) rfl ?_ ?_
  · exact qr_vret (dkX12_put (i := 21) rfl) rfl rfl
  · refine qr_aload_n (n := 8) 0 (dkX12_put (i := 4) rfl) rfl rfl ?_
    refine qr_geta (n := 11) 0 1 1 (dkX12_put (i := 5) rfl) rfl lmO rfl gnX12 (Nat.le_of_ble_eq_true rfl) kfX12_13 rfl ?_
    refine qr_aload_n (n := 12) 0 (dkX12_put (i := 6) rfl) rfl rfl ?_
    refine qr_geti (n := 15) 0 2 (dkX12_put (i := 7) rfl) rfl lmO rfl gnX12 (Nat.le_of_ble_eq_true rfl) kfX12_175 rfl ?_
    refine qr_iload_n (n := 16) 1 (dkX12_put (i := 8) rfl) rfl rfl ?_
    refine qr_iload_n (n := 17) 2 (dkX12_put (i := 9) rfl) rfl rfl ?_
    refine qr_ishr (n := 18) (dkX12_put (i := 10) rfl) rfl ?_
    refine qr_i2b (n := 19) (dkX12_put (i := 11) rfl) rfl ?_
    refine qr_bast (n := 20) 1 2000 (dkX12_put (i := 12) rfl) rfl lmA_1 (fun S_2 => ?_)
    refine qr_aload_n (n := 21) 0 (dkX12_put (i := 13) rfl) rfl rfl ?_
    refine qr_dup (n := 22) (dkX12_put (i := 14) rfl) rfl rfl ?_
    refine qr_geti (n := 25) 0 2 (dkX12_put (i := 15) rfl) rfl lmO rfl gnX12 (Nat.le_of_ble_eq_true rfl) kfX12_175 rfl ?_
    refine qr_iconst (n := 26) 1 (dkX12_put (i := 16) rfl) rfl (by decide) ?_
    refine qr_iadd (n := 27) (dkX12_put (i := 17) rfl) rfl ?_
    refine qr_puti (n := 30) 0 2 (dkX12_put (i := 18) rfl) rfl lmO rfl gnX12 (Nat.le_of_ble_eq_true rfl) kfX12_175 rfl tyX12_ok nmX12 rfl rfl (fun S_3 => ?_)
    refine qr_iinc (n := 33) (v := (-8)) (lv2 := [(0, .ref (G.2.2.1 0)), (1, .int x1), (2, .int (x2_1 + (-8)))]) 2 [1, 2, 0] (dkX12_put (i := 19) rfl) rfl rfl (by decide) (by decide) rfl ?_
    refine qr_goto (n := 3) (dkX12_put (i := 20) rfl) (by decide) ?_
    exact hself_1 S_3 (x2_1 + (-8))
def tbX12_feed : List (Nat × Instr × Nat) := [(0, .aload_n 0, 1), (1, .getfield 175, 3), (4, .bipush 20, 2), (6, .iadd, 1), (7, .sipush 2000, 3), (10, .if_icmp .le 5, 3), (13, .iconst (-1), 1), (14, .ireturn, 1), (15, .aload_n 0, 1), (16, .iload_n 1, 1), (17, .invokevirtual 178, 3), (20, .aload_n 0, 1), (21, .iload_n 2, 1), (22, .invokevirtual 178, 3), (25, .aload_n 0, 1), (26, .iload_n 3, 1), (27, .invokevirtual 178, 3), (30, .aload_n 0, 1), (31, .iload 4, 2), (33, .invokevirtual 178, 3), (36, .aload_n 0, 1), (37, .iload 5, 2), (39, .invokevirtual 178, 3), (42, .aload_n 0, 1), (43, .getfield 175, 3), (46, .ireturn, 1)]
set_option maxRecDepth 20000 in
theorem daX12_feed : ∀ x ∈ tbX12_feed, decode cX12_feed x.1 = .ok x.2 := by decide +kernel
theorem dkX12_feed {i pc n : Nat} {ins : Instr} (h : tbX12_feed[i]? = some (pc, ins, n)) : decode cX12_feed pc = .ok (ins, n) := daX12_feed (pc, ins, n) (List.mem_of_getElem? h)
def fX12_feed (S0 : qv_St) (x1 : Int32) (x2 : Int32) (x3 : Int32) (x4 : Int32) (x5 : Int32) : Option (qv_St × Int32) :=
  if ((S0.1 0 2) + 20) ≤ 2000 then
    (fX12_put S0 x1).bind fun S_1 =>
    (fX12_put S_1 x2).bind fun S_2 =>
    (fX12_put S_2 x3).bind fun S_3 =>
    (fX12_put S_3 x4).bind fun S_4 =>
    (fX12_put S_4 x5).bind fun S_5 =>
    some (S_5, (S_5.1 0 2))
  else
    some (S0, (-1))
set_option maxRecDepth 20000 in
set_option maxHeartbeats 4000000 in
theorem wX12_feed (G : qv_GT) (S0 : qv_St) (x1 : Int32) (x2 : Int32) (x3 : Int32) (x4 : Int32) (x5 : Int32) : ∀ r, fX12_feed S0 x1 x2 x3 x4 x5 = some r → Cn G Lm yX12_feed cX12_feed 6 (some .int) 2 [.ref (G.2.2.1 0), .int x1, .int x2, .int x3, .int x4, .int x5] S0 (qe_m r) := by
  refine cn_of (own := RX12) (emb := qe_m) (lv := [(0, .ref (G.2.2.1 0)), (1, .int x1), (2, .int x2), (3, .int x3), (4, .int x4), (5, .int x5)]) rfl rfl (Nat.le_of_ble_eq_true rfl) rfl (fun X => ?_)
  unfold fX12_feed
  refine qr_aload_n (n := 1) 0 (dkX12_feed (i := 0) rfl) rfl rfl ?_
  refine qr_geti (n := 4) 0 2 (dkX12_feed (i := 1) rfl) rfl lmO rfl gnX12 (Nat.le_of_ble_eq_true rfl) kfX12_175 rfl ?_
  refine qr_bipush (n := 6) 20 (dkX12_feed (i := 2) rfl) rfl (by decide) ?_
  refine qr_iadd (n := 7) (dkX12_feed (i := 3) rfl) rfl ?_
  refine qr_sipush (n := 10) 2000 (dkX12_feed (i := 4) rfl) rfl (by decide) ?_
  refine qr_icmp_le (t := 15) (n := 13) (dkX12_feed (i := 5) rfl) (by decide) rfl ?_ ?_
  · refine qr_aload_n (n := 16) 0 (dkX12_feed (i := 8) rfl) rfl rfl ?_
    refine qr_iload_n (n := 17) 1 (dkX12_feed (i := 9) rfl) rfl rfl ?_
    refine qr_cvu (n := 20) 0 [.int x1] (dkX12_feed (i := 10) rfl) rfl kvX12_178 rfl rfl (Nat.le_of_ble_eq_true rfl) rfl rfl lmO rfl (wX12_put G S0 x1) (fun S_1 => ?_)
    refine qr_aload_n (n := 21) 0 (dkX12_feed (i := 11) rfl) rfl rfl ?_
    refine qr_iload_n (n := 22) 2 (dkX12_feed (i := 12) rfl) rfl rfl ?_
    refine qr_cvu (n := 25) 0 [.int x2] (dkX12_feed (i := 13) rfl) rfl kvX12_178 rfl rfl (Nat.le_of_ble_eq_true rfl) rfl rfl lmO rfl (wX12_put G S_1 x2) (fun S_2 => ?_)
    refine qr_aload_n (n := 26) 0 (dkX12_feed (i := 14) rfl) rfl rfl ?_
    refine qr_iload_n (n := 27) 3 (dkX12_feed (i := 15) rfl) rfl rfl ?_
    refine qr_cvu (n := 30) 0 [.int x3] (dkX12_feed (i := 16) rfl) rfl kvX12_178 rfl rfl (Nat.le_of_ble_eq_true rfl) rfl rfl lmO rfl (wX12_put G S_2 x3) (fun S_3 => ?_)
    refine qr_aload_n (n := 31) 0 (dkX12_feed (i := 17) rfl) rfl rfl ?_
    refine qr_iload (n := 33) 4 (dkX12_feed (i := 18) rfl) rfl rfl ?_
    refine qr_cvu (n := 36) 0 [.int x4] (dkX12_feed (i := 19) rfl) rfl kvX12_178 rfl rfl (Nat.le_of_ble_eq_true rfl) rfl rfl lmO rfl (wX12_put G S_3 x4) (fun S_4 => ?_)
    refine qr_aload_n (n := 37) 0 (dkX12_feed (i := 20) rfl) rfl rfl ?_
    refine qr_iload (n := 39) 5 (dkX12_feed (i := 21) rfl) rfl rfl ?_
    refine qr_cvu (n := 42) 0 [.int x5] (dkX12_feed (i := 22) rfl) rfl kvX12_178 rfl rfl (Nat.le_of_ble_eq_true rfl) rfl rfl lmO rfl (wX12_put G S_4 x5) (fun S_5 => ?_)
    refine qr_aload_n (n := 43) 0 (dkX12_feed (i := 23) rfl) rfl rfl ?_
    refine qr_geti (n := 46) 0 2 (dkX12_feed (i := 24) rfl) rfl lmO rfl gnX12 (Nat.le_of_ble_eq_true rfl) kfX12_175 rfl ?_
    exact qr_iret (dkX12_feed (i := 25) rfl) rfl rfl
  · refine qr_iconst (n := 14) (-1) (dkX12_feed (i := 6) rfl) rfl (by decide) ?_
    exact qr_iret (dkX12_feed (i := 7) rfl) rfl rfl
def tbX12_back : List (Nat × Instr × Nat) := [(0, .iload_n 1, 1), (1, .ifCond .lt 11, 3), (4, .iload_n 1, 1), (5, .aload_n 0, 1), (6, .getfield 175, 3), (9, .if_icmp .le 5, 3), (12, .iconst (-1), 1), (13, .ireturn, 1), (14, .aload_n 0, 1), (15, .dup, 1), (16, .getfield 175, 3), (19, .iload_n 1, 1), (20, .isub, 1), (21, .putfield 175, 3), (24, .aload_n 0, 1), (25, .getfield 175, 3), (28, .ireturn, 1)]
set_option maxRecDepth 20000 in
theorem daX12_back : ∀ x ∈ tbX12_back, decode cX12_back x.1 = .ok x.2 := by decide +kernel
theorem dkX12_back {i pc n : Nat} {ins : Instr} (h : tbX12_back[i]? = some (pc, ins, n)) : decode cX12_back pc = .ok (ins, n) := daX12_back (pc, ins, n) (List.mem_of_getElem? h)
def fX12_back (S0 : qv_St) (x1 : Int32) : Option (qv_St × Int32) :=
  if x1 < 0 then
    some (S0, (-1))
  else
    if x1 ≤ (S0.1 0 2) then
      qv_b (qv_si S0 0 2 ((S0.1 0 2) - x1)) fun S_1 =>
      some (S_1, (S_1.1 0 2))
    else
      some (S0, (-1))
set_option maxRecDepth 20000 in
set_option maxHeartbeats 4000000 in
theorem wX12_back (G : qv_GT) (S0 : qv_St) (x1 : Int32) : ∀ r, fX12_back S0 x1 = some r → Cn G Lm yX12_back cX12_back 2 (some .int) 1 [.ref (G.2.2.1 0), .int x1] S0 (qe_m r) := by
  refine cn_of (own := RX12) (emb := qe_m) (lv := [(0, .ref (G.2.2.1 0)), (1, .int x1)]) rfl rfl (Nat.le_of_ble_eq_true rfl) rfl (fun X => ?_)
  unfold fX12_back
  refine qr_iload_n (n := 1) 1 (dkX12_back (i := 0) rfl) rfl rfl ?_
  refine qr_if_lt (t := 12) (n := 4) (dkX12_back (i := 1) rfl) (by decide) rfl ?_ ?_
  · refine qr_iconst (n := 13) (-1) (dkX12_back (i := 6) rfl) rfl (by decide) ?_
    exact qr_iret (dkX12_back (i := 7) rfl) rfl rfl
  · refine qr_iload_n (n := 5) 1 (dkX12_back (i := 2) rfl) rfl rfl ?_
    refine qr_aload_n (n := 6) 0 (dkX12_back (i := 3) rfl) rfl rfl ?_
    refine qr_geti (n := 9) 0 2 (dkX12_back (i := 4) rfl) rfl lmO rfl gnX12 (Nat.le_of_ble_eq_true rfl) kfX12_175 rfl ?_
    refine qr_icmp_le (t := 14) (n := 12) (dkX12_back (i := 5) rfl) (by decide) rfl ?_ ?_
    · refine qr_aload_n (n := 15) 0 (dkX12_back (i := 8) rfl) rfl rfl ?_
      refine qr_dup (n := 16) (dkX12_back (i := 9) rfl) rfl rfl ?_
      refine qr_geti (n := 19) 0 2 (dkX12_back (i := 10) rfl) rfl lmO rfl gnX12 (Nat.le_of_ble_eq_true rfl) kfX12_175 rfl ?_
      refine qr_iload_n (n := 20) 1 (dkX12_back (i := 11) rfl) rfl rfl ?_
      refine qr_isub (n := 21) (dkX12_back (i := 12) rfl) rfl ?_
      refine qr_puti (n := 24) 0 2 (dkX12_back (i := 13) rfl) rfl lmO rfl gnX12 (Nat.le_of_ble_eq_true rfl) kfX12_175 rfl tyX12_ok nmX12 rfl rfl (fun S_1 => ?_)
      refine qr_aload_n (n := 25) 0 (dkX12_back (i := 14) rfl) rfl rfl ?_
      refine qr_geti (n := 28) 0 2 (dkX12_back (i := 15) rfl) rfl lmO rfl gnX12 (Nat.le_of_ble_eq_true rfl) kfX12_175 rfl ?_
      exact qr_iret (dkX12_back (i := 16) rfl) rfl rfl
    · refine qr_iconst (n := 13) (-1) (dkX12_back (i := 6) rfl) rfl (by decide) ?_
      exact qr_iret (dkX12_back (i := 7) rfl) rfl rfl
def tbX12_byteAt : List (Nat × Instr × Nat) := [(0, .iload_n 1, 1), (1, .aload_n 0, 1), (2, .getfield 181, 3), (5, .if_icmp .ge 16, 3), (8, .aload_n 0, 1), (9, .getfield 17, 3), (12, .iload_n 1, 1), (13, .baload, 1), (14, .sipush 255, 3), (17, .iand, 1), (18, .goto 4, 3), (21, .iconst 0, 1), (22, .ireturn, 1)]
set_option maxRecDepth 20000 in
theorem daX12_byteAt : ∀ x ∈ tbX12_byteAt, decode cX12_byteAt x.1 = .ok x.2 := by decide +kernel
theorem dkX12_byteAt {i pc n : Nat} {ins : Instr} (h : tbX12_byteAt[i]? = some (pc, ins, n)) : decode cX12_byteAt pc = .ok (ins, n) := daX12_byteAt (pc, ins, n) (List.mem_of_getElem? h)
def fX12_byteAt (S0 : qv_St) (x1 : Int32) : Option Int32 :=
  if (S0.1 0 4) ≤ x1 then
    some 0
  else
    qv_ck x1 2000 <|
    some ((S0.1 2 (Int32.toNatClampNeg x1)) &&& 255)
set_option maxRecDepth 20000 in
set_option maxHeartbeats 4000000 in
theorem wX12_byteAt (G : qv_GT) (S0 : qv_St) (x1 : Int32) : ∀ r, fX12_byteAt S0 x1 = some r → Cn G Lm yX12_byteAt cX12_byteAt 2 (some .int) 1 [.ref (G.2.2.1 0), .int x1] S0 ((qe_i S0) r) := by
  refine cn_of (own := RX12) (emb := (qe_i S0)) (lv := [(0, .ref (G.2.2.1 0)), (1, .int x1)]) rfl rfl (Nat.le_of_ble_eq_true rfl) rfl (fun X => ?_)
  unfold fX12_byteAt
  refine qr_iload_n (n := 1) 1 (dkX12_byteAt (i := 0) rfl) rfl rfl ?_
  refine qr_aload_n (n := 2) 0 (dkX12_byteAt (i := 1) rfl) rfl rfl ?_
  refine qr_geti (n := 5) 0 4 (dkX12_byteAt (i := 2) rfl) rfl lmO rfl gnX12 (Nat.le_of_ble_eq_true rfl) kfX12_181 rfl ?_
  refine qr_icmp_ge (t := 21) (n := 8) (dkX12_byteAt (i := 3) rfl) (by decide) rfl ?_ ?_
  · refine qr_iconst (n := 22) 0 (dkX12_byteAt (i := 11) rfl) rfl (by decide) ?_
    exact qr_iret (dkX12_byteAt (i := 12) rfl) rfl rfl
  · refine qr_aload_n (n := 9) 0 (dkX12_byteAt (i := 4) rfl) rfl rfl ?_
    refine qr_geta (n := 12) 0 3 2 (dkX12_byteAt (i := 5) rfl) rfl lmO rfl gnX12 (Nat.le_of_ble_eq_true rfl) kfX12_17 rfl ?_
    refine qr_iload_n (n := 13) 1 (dkX12_byteAt (i := 6) rfl) rfl rfl ?_
    refine qr_bald (n := 14) 2 2000 (dkX12_byteAt (i := 7) rfl) rfl lmA_2 ?_
    refine qr_sipush (n := 17) 255 (dkX12_byteAt (i := 8) rfl) rfl (by decide) ?_
    refine qr_iand (n := 18) (dkX12_byteAt (i := 9) rfl) rfl ?_
    refine qr_goto (n := 22) (dkX12_byteAt (i := 10) rfl) (by decide) ?_
    exact qr_iret (dkX12_byteAt (i := 12) rfl) rfl rfl
def tbX12_isDigit : List (Nat × Instr × Nat) := [(0, .iload_n 0, 1), (1, .bipush 48, 2), (3, .if_icmp .lt 13, 3), (6, .iload_n 0, 1), (7, .bipush 57, 2), (9, .if_icmp .gt 7, 3), (12, .iconst 1, 1), (13, .goto 4, 3), (16, .iconst 0, 1), (17, .ireturn, 1)]
set_option maxRecDepth 20000 in
theorem daX12_isDigit : ∀ x ∈ tbX12_isDigit, decode cX12_isDigit x.1 = .ok x.2 := by decide +kernel
theorem dkX12_isDigit {i pc n : Nat} {ins : Instr} (h : tbX12_isDigit[i]? = some (pc, ins, n)) : decode cX12_isDigit pc = .ok (ins, n) := daX12_isDigit (pc, ins, n) (List.mem_of_getElem? h)
def fX12_isDigit (x0 : Int32) : Option Int32 :=
  qv_j (
    some 0) fun K_1 =>
  if x0 < 48 then
    K_1
  else
    if 57 < x0 then
      K_1
    else
      some 1
set_option maxRecDepth 20000 in
set_option maxHeartbeats 4000000 in
theorem wX12_isDigit (G : qv_GT) (S0 : qv_St) (x0 : Int32) : ∀ r, fX12_isDigit x0 = some r → Cn G Lm yX12_isDigit cX12_isDigit 1 (some .boolean) 1 [.int x0] S0 ((qe_i S0) r) := by
  refine cn_of (own := RX12) (emb := (qe_i S0)) (lv := [(0, .int x0)]) rfl rfl (Nat.le_of_ble_eq_true rfl) rfl (fun X => ?_)
  unfold fX12_isDigit
  refine qr_iload_n (n := 1) 0 (dkX12_isDigit (i := 0) rfl) rfl rfl ?_
  refine qr_bipush (n := 3) 48 (dkX12_isDigit (i := 1) rfl) rfl (by decide) ?_
  refine qr_j (fun K_1 : Option Int32 => VV G Lm X RX12 cX12_isDigit 1 (some .boolean) 1 (qe_i S0) 16 [] [] S0 (K_1)) (?_) (fun K_1 hK_1 => ?_)
  · refine qr_iconst (n := 17) 0 (dkX12_isDigit (i := 8) rfl) rfl (by decide) ?_
    exact qr_zretc (dkX12_isDigit (i := 9) rfl) rfl rfl rfl
  · refine qr_icmp_lt (t := 16) (n := 6) (dkX12_isDigit (i := 2) rfl) (by decide) rfl ?_ ?_
    · refine qr_sub [] rfl ?_
      exact hK_1
    · refine qr_iload_n (n := 7) 0 (dkX12_isDigit (i := 3) rfl) rfl rfl ?_
      refine qr_bipush (n := 9) 57 (dkX12_isDigit (i := 4) rfl) rfl (by decide) ?_
      refine qr_icmp_gt (t := 16) (n := 12) (dkX12_isDigit (i := 5) rfl) (by decide) rfl ?_ ?_
      · refine qr_sub [] rfl ?_
        exact hK_1
      · refine qr_iconst (n := 13) 1 (dkX12_isDigit (i := 6) rfl) rfl (by decide) ?_
        refine qr_goto (n := 17) (dkX12_isDigit (i := 7) rfl) (by decide) ?_
        exact qr_zretc (dkX12_isDigit (i := 9) rfl) rfl rfl rfl
def tbX12_isLetter : List (Nat × Instr × Nat) := [(0, .iload_n 0, 1), (1, .bipush 97, 2), (3, .if_icmp .lt 13, 3), (6, .iload_n 0, 1), (7, .bipush 122, 2), (9, .if_icmp .gt 7, 3), (12, .iconst 1, 1), (13, .goto 4, 3), (16, .iconst 0, 1), (17, .ireturn, 1)]
set_option maxRecDepth 20000 in
theorem daX12_isLetter : ∀ x ∈ tbX12_isLetter, decode cX12_isLetter x.1 = .ok x.2 := by decide +kernel
theorem dkX12_isLetter {i pc n : Nat} {ins : Instr} (h : tbX12_isLetter[i]? = some (pc, ins, n)) : decode cX12_isLetter pc = .ok (ins, n) := daX12_isLetter (pc, ins, n) (List.mem_of_getElem? h)
def fX12_isLetter (x0 : Int32) : Option Int32 :=
  qv_j (
    some 0) fun K_1 =>
  if x0 < 97 then
    K_1
  else
    if 122 < x0 then
      K_1
    else
      some 1
set_option maxRecDepth 20000 in
set_option maxHeartbeats 4000000 in
theorem wX12_isLetter (G : qv_GT) (S0 : qv_St) (x0 : Int32) : ∀ r, fX12_isLetter x0 = some r → Cn G Lm yX12_isLetter cX12_isLetter 1 (some .boolean) 1 [.int x0] S0 ((qe_i S0) r) := by
  refine cn_of (own := RX12) (emb := (qe_i S0)) (lv := [(0, .int x0)]) rfl rfl (Nat.le_of_ble_eq_true rfl) rfl (fun X => ?_)
  unfold fX12_isLetter
  refine qr_iload_n (n := 1) 0 (dkX12_isLetter (i := 0) rfl) rfl rfl ?_
  refine qr_bipush (n := 3) 97 (dkX12_isLetter (i := 1) rfl) rfl (by decide) ?_
  refine qr_j (fun K_1 : Option Int32 => VV G Lm X RX12 cX12_isLetter 1 (some .boolean) 1 (qe_i S0) 16 [] [] S0 (K_1)) (?_) (fun K_1 hK_1 => ?_)
  · refine qr_iconst (n := 17) 0 (dkX12_isLetter (i := 8) rfl) rfl (by decide) ?_
    exact qr_zretc (dkX12_isLetter (i := 9) rfl) rfl rfl rfl
  · refine qr_icmp_lt (t := 16) (n := 6) (dkX12_isLetter (i := 2) rfl) (by decide) rfl ?_ ?_
    · refine qr_sub [] rfl ?_
      exact hK_1
    · refine qr_iload_n (n := 7) 0 (dkX12_isLetter (i := 3) rfl) rfl rfl ?_
      refine qr_bipush (n := 9) 122 (dkX12_isLetter (i := 4) rfl) rfl (by decide) ?_
      refine qr_icmp_gt (t := 16) (n := 12) (dkX12_isLetter (i := 5) rfl) (by decide) rfl ?_ ?_
      · refine qr_sub [] rfl ?_
        exact hK_1
      · refine qr_iconst (n := 13) 1 (dkX12_isLetter (i := 6) rfl) rfl (by decide) ?_
        refine qr_goto (n := 17) (dkX12_isLetter (i := 7) rfl) (by decide) ?_
        exact qr_zretc (dkX12_isLetter (i := 9) rfl) rfl rfl rfl
def tbX12_appends : List (Nat × Instr × Nat) := [(0, .iload_n 2, 1), (1, .ifCond .ne 7, 3), (4, .lload_n 0, 1), (5, .goto 16, 3), (8, .ldc2_w 184, 3), (11, .lload_n 0, 1), (12, .lmul, 1), (13, .iload_n 2, 1), (14, .bipush 97, 2), (16, .isub, 1), (17, .iconst 1, 1), (18, .iadd, 1), (19, .i2l, 1), (20, .ladd, 1), (21, .lreturn, 1)]
set_option maxRecDepth 20000 in
theorem daX12_appends : ∀ x ∈ tbX12_appends, decode cX12_appends x.1 = .ok x.2 := by decide +kernel
theorem dkX12_appends {i pc n : Nat} {ins : Instr} (h : tbX12_appends[i]? = some (pc, ins, n)) : decode cX12_appends pc = .ok (ins, n) := daX12_appends (pc, ins, n) (List.mem_of_getElem? h)
def fX12_appends (x0 : Int64) (x2 : Int32) : Option Int64 :=
  if x2 = 0 then
    some x0
  else
    some ((27 * x0) + (Int32.toInt64 ((x2 - 97) + 1)))
set_option maxRecDepth 20000 in
set_option maxHeartbeats 4000000 in
theorem wX12_appends (G : qv_GT) (S0 : qv_St) (x0 : Int64) (x2 : Int32) : ∀ r, fX12_appends x0 x2 = some r → Cn G Lm yX12_appends cX12_appends 3 (some .long) 1 [.long x0, .int x2] S0 ((qe_l S0) r) := by
  refine cn_of (own := RX12) (emb := (qe_l S0)) (lv := [(0, .long x0), (2, .int x2)]) rfl rfl (Nat.le_of_ble_eq_true rfl) rfl (fun X => ?_)
  unfold fX12_appends
  refine qr_iload_n (n := 1) 1 (dkX12_appends (i := 0) rfl) rfl rfl ?_
  refine qr_if_ne (t := 8) (n := 4) (dkX12_appends (i := 1) rfl) (by decide) rfl ?_ ?_
  · refine qr_ldc2 (n := 11) 27 (dkX12_appends (i := 4) rfl) rfl kcX12_184 ?_
    refine qr_lload_n (n := 12) 0 (dkX12_appends (i := 5) rfl) rfl rfl ?_
    refine qr_lmul (n := 13) (dkX12_appends (i := 6) rfl) rfl ?_
    refine qr_iload_n (n := 14) 1 (dkX12_appends (i := 7) rfl) rfl rfl ?_
    refine qr_bipush (n := 16) 97 (dkX12_appends (i := 8) rfl) rfl (by decide) ?_
    refine qr_isub (n := 17) (dkX12_appends (i := 9) rfl) rfl ?_
    refine qr_iconst (n := 18) 1 (dkX12_appends (i := 10) rfl) rfl (by decide) ?_
    refine qr_iadd (n := 19) (dkX12_appends (i := 11) rfl) rfl ?_
    refine qr_i2l (n := 20) (dkX12_appends (i := 12) rfl) rfl ?_
    refine qr_ladd (n := 21) (dkX12_appends (i := 13) rfl) rfl ?_
    exact qr_lret (dkX12_appends (i := 14) rfl) rfl rfl
  · refine qr_lload_n (n := 5) 0 (dkX12_appends (i := 2) rfl) rfl rfl ?_
    refine qr_goto (n := 21) (dkX12_appends (i := 3) rfl) (by decide) ?_
    exact qr_lret (dkX12_appends (i := 14) rfl) rfl rfl
def tbX12_word : List (Nat × Instr × Nat) := [(0, .lconst 0, 1), (1, .iload_n 0, 1), (2, .invokestatic 186, 3), (5, .iload_n 1, 1), (6, .invokestatic 186, 3), (9, .iload_n 2, 1), (10, .invokestatic 186, 3), (13, .iload_n 3, 1), (14, .invokestatic 186, 3), (17, .iload 4, 2), (19, .invokestatic 186, 3), (22, .iload 5, 2), (24, .invokestatic 186, 3), (27, .iload 6, 2), (29, .invokestatic 186, 3), (32, .lreturn, 1)]
set_option maxRecDepth 20000 in
theorem daX12_word : ∀ x ∈ tbX12_word, decode cX12_word x.1 = .ok x.2 := by decide +kernel
theorem dkX12_word {i pc n : Nat} {ins : Instr} (h : tbX12_word[i]? = some (pc, ins, n)) : decode cX12_word pc = .ok (ins, n) := daX12_word (pc, ins, n) (List.mem_of_getElem? h)
def fX12_word (x0 : Int32) (x1 : Int32) (x2 : Int32) (x3 : Int32) (x4 : Int32) (x5 : Int32) (x6 : Int32) : Option Int64 :=
  (fX12_appends 0 x0).bind fun r_1 =>
  (fX12_appends r_1 x1).bind fun r_2 =>
  (fX12_appends r_2 x2).bind fun r_3 =>
  (fX12_appends r_3 x3).bind fun r_4 =>
  (fX12_appends r_4 x4).bind fun r_5 =>
  (fX12_appends r_5 x5).bind fun r_6 =>
  (fX12_appends r_6 x6).bind fun r_7 =>
  some r_7
set_option maxRecDepth 20000 in
set_option maxHeartbeats 4000000 in
theorem wX12_word (G : qv_GT) (S0 : qv_St) (x0 : Int32) (x1 : Int32) (x2 : Int32) (x3 : Int32) (x4 : Int32) (x5 : Int32) (x6 : Int32) : ∀ r, fX12_word x0 x1 x2 x3 x4 x5 x6 = some r → Cn G Lm yX12_word cX12_word 7 (some .long) 2 [.int x0, .int x1, .int x2, .int x3, .int x4, .int x5, .int x6] S0 ((qe_l S0) r) := by
  refine cn_of (own := RX12) (emb := (qe_l S0)) (lv := [(0, .int x0), (1, .int x1), (2, .int x2), (3, .int x3), (4, .int x4), (5, .int x5), (6, .int x6)]) rfl rfl (Nat.le_of_ble_eq_true rfl) rfl (fun X => ?_)
  unfold fX12_word
  refine qr_lconst (n := 1) 0 (dkX12_word (i := 0) rfl) rfl (by decide) ?_
  refine qr_iload_n (n := 2) 0 (dkX12_word (i := 1) rfl) rfl rfl ?_
  refine qr_csl (n := 5) [.long 0, .int x0] (dkX12_word (i := 2) rfl) rfl kvX12_186 rfl rfl (Nat.le_of_ble_eq_true rfl) rfl rfl (wX12_appends G S0 0 x0) (fun r_1 => ?_)
  refine qr_iload_n (n := 6) 1 (dkX12_word (i := 3) rfl) rfl rfl ?_
  refine qr_csl (n := 9) [.long r_1, .int x1] (dkX12_word (i := 4) rfl) rfl kvX12_186 rfl rfl (Nat.le_of_ble_eq_true rfl) rfl rfl (wX12_appends G S0 r_1 x1) (fun r_2 => ?_)
  refine qr_iload_n (n := 10) 2 (dkX12_word (i := 5) rfl) rfl rfl ?_
  refine qr_csl (n := 13) [.long r_2, .int x2] (dkX12_word (i := 6) rfl) rfl kvX12_186 rfl rfl (Nat.le_of_ble_eq_true rfl) rfl rfl (wX12_appends G S0 r_2 x2) (fun r_3 => ?_)
  refine qr_iload_n (n := 14) 3 (dkX12_word (i := 7) rfl) rfl rfl ?_
  refine qr_csl (n := 17) [.long r_3, .int x3] (dkX12_word (i := 8) rfl) rfl kvX12_186 rfl rfl (Nat.le_of_ble_eq_true rfl) rfl rfl (wX12_appends G S0 r_3 x3) (fun r_4 => ?_)
  refine qr_iload (n := 19) 4 (dkX12_word (i := 9) rfl) rfl rfl ?_
  refine qr_csl (n := 22) [.long r_4, .int x4] (dkX12_word (i := 10) rfl) rfl kvX12_186 rfl rfl (Nat.le_of_ble_eq_true rfl) rfl rfl (wX12_appends G S0 r_4 x4) (fun r_5 => ?_)
  refine qr_iload (n := 24) 5 (dkX12_word (i := 11) rfl) rfl rfl ?_
  refine qr_csl (n := 27) [.long r_5, .int x5] (dkX12_word (i := 12) rfl) rfl kvX12_186 rfl rfl (Nat.le_of_ble_eq_true rfl) rfl rfl (wX12_appends G S0 r_5 x5) (fun r_6 => ?_)
  refine qr_iload (n := 29) 6 (dkX12_word (i := 13) rfl) rfl rfl ?_
  refine qr_csl (n := 32) [.long r_6, .int x6] (dkX12_word (i := 14) rfl) rfl kvX12_186 rfl rfl (Nat.le_of_ble_eq_true rfl) rfl rfl (wX12_appends G S0 r_6 x6) (fun r_7 => ?_)
  exact qr_lret (dkX12_word (i := 15) rfl) rfl rfl
def tbX12_token : List (Nat × Instr × Nat) := [(0, .aload_n 0, 1), (1, .getfield 20, 3), (4, .aload_n 0, 1), (5, .getfield 190, 3), (8, .iload_n 1, 1), (9, .iastore, 1), (10, .aload_n 0, 1), (11, .getfield 24, 3), (14, .aload_n 0, 1), (15, .getfield 190, 3), (18, .iload_n 2, 1), (19, .iastore, 1), (20, .aload_n 0, 1), (21, .getfield 27, 3), (24, .aload_n 0, 1), (25, .getfield 190, 3), (28, .iload_n 3, 1), (29, .iastore, 1), (30, .aload_n 0, 1), (31, .getfield 30, 3), (34, .aload_n 0, 1), (35, .getfield 190, 3), (38, .lload 4, 2), (40, .lastore, 1), (41, .aload_n 0, 1), (42, .dup, 1), (43, .getfield 190, 3), (46, .iconst 1, 1), (47, .iadd, 1), (48, .putfield 190, 3), (51, .return_, 1)]
set_option maxRecDepth 20000 in
theorem daX12_token : ∀ x ∈ tbX12_token, decode cX12_token x.1 = .ok x.2 := by decide +kernel
theorem dkX12_token {i pc n : Nat} {ins : Instr} (h : tbX12_token[i]? = some (pc, ins, n)) : decode cX12_token pc = .ok (ins, n) := daX12_token (pc, ins, n) (List.mem_of_getElem? h)
def fX12_token (S0 : qv_St) (x1 : Int32) (x2 : Int32) (x3 : Int32) (x4 : Int64) : Option qv_St :=
  qv_ck (S0.1 0 10) 403 <| qv_b (qv_si S0 3 (Int32.toNatClampNeg (S0.1 0 10)) x1) fun S_1 =>
  qv_ck (S_1.1 0 10) 403 <| qv_b (qv_si S_1 4 (Int32.toNatClampNeg (S_1.1 0 10)) x2) fun S_2 =>
  qv_ck (S_2.1 0 10) 403 <| qv_b (qv_si S_2 5 (Int32.toNatClampNeg (S_2.1 0 10)) x3) fun S_3 =>
  qv_ck (S_3.1 0 10) 403 <| qv_b (qv_sl S_3 6 (Int32.toNatClampNeg (S_3.1 0 10)) x4) fun S_4 =>
  qv_b (qv_si S_4 0 10 ((S_4.1 0 10) + 1)) fun S_5 =>
  some S_5
set_option maxRecDepth 20000 in
set_option maxHeartbeats 4000000 in
theorem wX12_token (G : qv_GT) (S0 : qv_St) (x1 : Int32) (x2 : Int32) (x3 : Int32) (x4 : Int64) : ∀ r, fX12_token S0 x1 x2 x3 x4 = some r → Cn G Lm yX12_token cX12_token 6 none 1 [.ref (G.2.2.1 0), .int x1, .int x2, .int x3, .long x4] S0 (qe_u r) := by
  refine cn_of (own := RX12) (emb := qe_u) (lv := [(0, .ref (G.2.2.1 0)), (1, .int x1), (2, .int x2), (3, .int x3), (4, .long x4)]) rfl rfl (Nat.le_of_ble_eq_true rfl) rfl (fun X => ?_)
  unfold fX12_token
  refine qr_aload_n (n := 1) 0 (dkX12_token (i := 0) rfl) rfl rfl ?_
  refine qr_geta (n := 4) 0 5 3 (dkX12_token (i := 1) rfl) rfl lmO rfl gnX12 (Nat.le_of_ble_eq_true rfl) kfX12_20 rfl ?_
  refine qr_aload_n (n := 5) 0 (dkX12_token (i := 2) rfl) rfl rfl ?_
  refine qr_geti (n := 8) 0 10 (dkX12_token (i := 3) rfl) rfl lmO rfl gnX12 (Nat.le_of_ble_eq_true rfl) kfX12_190 rfl ?_
  refine qr_iload_n (n := 9) 1 (dkX12_token (i := 4) rfl) rfl rfl ?_
  refine qr_iast (n := 10) 3 403 (dkX12_token (i := 5) rfl) rfl lmA_3 (fun S_1 => ?_)
  refine qr_aload_n (n := 11) 0 (dkX12_token (i := 6) rfl) rfl rfl ?_
  refine qr_geta (n := 14) 0 6 4 (dkX12_token (i := 7) rfl) rfl lmO rfl gnX12 (Nat.le_of_ble_eq_true rfl) kfX12_24 rfl ?_
  refine qr_aload_n (n := 15) 0 (dkX12_token (i := 8) rfl) rfl rfl ?_
  refine qr_geti (n := 18) 0 10 (dkX12_token (i := 9) rfl) rfl lmO rfl gnX12 (Nat.le_of_ble_eq_true rfl) kfX12_190 rfl ?_
  refine qr_iload_n (n := 19) 2 (dkX12_token (i := 10) rfl) rfl rfl ?_
  refine qr_iast (n := 20) 4 403 (dkX12_token (i := 11) rfl) rfl lmA_4 (fun S_2 => ?_)
  refine qr_aload_n (n := 21) 0 (dkX12_token (i := 12) rfl) rfl rfl ?_
  refine qr_geta (n := 24) 0 7 5 (dkX12_token (i := 13) rfl) rfl lmO rfl gnX12 (Nat.le_of_ble_eq_true rfl) kfX12_27 rfl ?_
  refine qr_aload_n (n := 25) 0 (dkX12_token (i := 14) rfl) rfl rfl ?_
  refine qr_geti (n := 28) 0 10 (dkX12_token (i := 15) rfl) rfl lmO rfl gnX12 (Nat.le_of_ble_eq_true rfl) kfX12_190 rfl ?_
  refine qr_iload_n (n := 29) 3 (dkX12_token (i := 16) rfl) rfl rfl ?_
  refine qr_iast (n := 30) 5 403 (dkX12_token (i := 17) rfl) rfl lmA_5 (fun S_3 => ?_)
  refine qr_aload_n (n := 31) 0 (dkX12_token (i := 18) rfl) rfl rfl ?_
  refine qr_geta (n := 34) 0 8 6 (dkX12_token (i := 19) rfl) rfl lmO rfl gnX12 (Nat.le_of_ble_eq_true rfl) kfX12_30 rfl ?_
  refine qr_aload_n (n := 35) 0 (dkX12_token (i := 20) rfl) rfl rfl ?_
  refine qr_geti (n := 38) 0 10 (dkX12_token (i := 21) rfl) rfl lmO rfl gnX12 (Nat.le_of_ble_eq_true rfl) kfX12_190 rfl ?_
  refine qr_lload (n := 40) 4 (dkX12_token (i := 22) rfl) rfl rfl ?_
  refine qr_last (n := 41) 6 403 (dkX12_token (i := 23) rfl) rfl lmA_6 (fun S_4 => ?_)
  refine qr_aload_n (n := 42) 0 (dkX12_token (i := 24) rfl) rfl rfl ?_
  refine qr_dup (n := 43) (dkX12_token (i := 25) rfl) rfl rfl ?_
  refine qr_geti (n := 46) 0 10 (dkX12_token (i := 26) rfl) rfl lmO rfl gnX12 (Nat.le_of_ble_eq_true rfl) kfX12_190 rfl ?_
  refine qr_iconst (n := 47) 1 (dkX12_token (i := 27) rfl) rfl (by decide) ?_
  refine qr_iadd (n := 48) (dkX12_token (i := 28) rfl) rfl ?_
  refine qr_puti (n := 51) 0 10 (dkX12_token (i := 29) rfl) rfl lmO rfl gnX12 (Nat.le_of_ble_eq_true rfl) kfX12_190 rfl tyX12_ok nmX12 rfl rfl (fun S_5 => ?_)
  exact qr_vret (dkX12_token (i := 30) rfl) rfl rfl
def tbX12_sign : List (Nat × Instr × Nat) := [(0, .iload_n 2, 1), (1, .bipush 59, 2), (3, .if_icmp .ne 7, 3), (6, .iconst 4, 1), (7, .goto 36, 3), (10, .iload_n 2, 1), (11, .bipush 61, 2), (13, .if_icmp .ne 7, 3), (16, .iconst 5, 1), (17, .goto 26, 3), (20, .iload_n 2, 1), (21, .bipush 40, 2), (23, .if_icmp .ne 8, 3), (26, .bipush 6, 2), (28, .goto 15, 3), (31, .iload_n 2, 1), (32, .bipush 41, 2), (34, .if_icmp .ne 8, 3), (37, .bipush 7, 2), (39, .goto 4, 3), (42, .iconst 3, 1), (43, .istore 4, 2), (45, .iload_n 2, 1), (46, .bipush 43, 2), (48, .if_icmp .ne 7, 3), (51, .bipush 8, 2), (53, .istore 4, 2), (55, .iload_n 2, 1), (56, .bipush 45, 2), (58, .if_icmp .ne 7, 3), (61, .bipush 9, 2), (63, .istore 4, 2), (65, .iload_n 2, 1), (66, .bipush 42, 2), (68, .if_icmp .ne 7, 3), (71, .bipush 10, 2), (73, .istore 4, 2), (75, .iload_n 2, 1), (76, .bipush 47, 2), (78, .if_icmp .ne 7, 3), (81, .bipush 15, 2), (83, .istore 4, 2), (85, .iload_n 2, 1), (86, .bipush 60, 2), (88, .if_icmp .ne 7, 3), (91, .bipush 13, 2), (93, .istore 4, 2), (95, .aload_n 0, 1), (96, .iload 4, 2), (98, .iload_n 1, 1), (99, .iconst 0, 1), (100, .lconst 0, 1), (101, .invokevirtual 197, 3), (104, .iconst 1, 1), (105, .ireturn, 1)]
set_option maxRecDepth 20000 in
theorem daX12_sign : ∀ x ∈ tbX12_sign, decode cX12_sign x.1 = .ok x.2 := by decide +kernel
theorem dkX12_sign {i pc n : Nat} {ins : Instr} (h : tbX12_sign[i]? = some (pc, ins, n)) : decode cX12_sign pc = .ok (ins, n) := daX12_sign (pc, ins, n) (List.mem_of_getElem? h)
def fX12_sign (S0 : qv_St) (x1 : Int32) (x2 : Int32) (x3 : Int32) : Option (qv_St × Int32) :=
  qv_j (fun (t_1 : Int32) =>
    qv_j (fun (x4_1 : Int32) =>
      qv_j (fun (x4_2 : Int32) =>
        qv_j (fun (x4_3 : Int32) =>
          qv_j (fun (x4_4 : Int32) =>
            qv_j (fun (x4_5 : Int32) =>
              (fX12_token S0 x4_5 x1 0 0).bind fun S_1 =>
              some (S_1, 1)) fun K_6 =>
            if x2 = 60 then
              K_6 13
            else
              K_6 x4_4) fun K_5 =>
          if x2 = 47 then
            K_5 15
          else
            K_5 x4_3) fun K_4 =>
        if x2 = 42 then
          K_4 10
        else
          K_4 x4_2) fun K_3 =>
      if x2 = 45 then
        K_3 9
      else
        K_3 x4_1) fun K_2 =>
    if x2 = 43 then
      K_2 8
    else
      K_2 t_1) fun K_1 =>
  if x2 = 59 then
    K_1 4
  else
    if x2 = 61 then
      K_1 5
    else
      if x2 = 40 then
        K_1 6
      else
        if x2 = 41 then
          K_1 7
        else
          K_1 3
set_option maxRecDepth 20000 in
set_option maxHeartbeats 4000000 in
theorem wX12_sign (G : qv_GT) (S0 : qv_St) (x1 : Int32) (x2 : Int32) (x3 : Int32) : ∀ r, fX12_sign S0 x1 x2 x3 = some r → Cn G Lm yX12_sign cX12_sign 5 (some .int) 2 [.ref (G.2.2.1 0), .int x1, .int x2, .int x3] S0 (qe_m r) := by
  refine cn_of (own := RX12) (emb := qe_m) (lv := [(0, .ref (G.2.2.1 0)), (1, .int x1), (2, .int x2), (3, .int x3)]) rfl rfl (Nat.le_of_ble_eq_true rfl) rfl (fun X => ?_)
  unfold fX12_sign
  refine qr_iload_n (n := 1) 2 (dkX12_sign (i := 0) rfl) rfl rfl ?_
  refine qr_bipush (n := 3) 59 (dkX12_sign (i := 1) rfl) rfl (by decide) ?_
  refine qr_j (fun K_1 : Int32 → Option (qv_St × Int32) => ∀ (t_1 : Int32), VV G Lm X RX12 cX12_sign 5 (some .int) 2 qe_m 43 [(0, .ref (G.2.2.1 0)), (1, .int x1), (2, .int x2)] [.int t_1] S0 (K_1 t_1)) (fun t_1 => ?_) (fun K_1 hK_1 => ?_)
  · refine qr_istore (n := 45) (lv2 := [(0, .ref (G.2.2.1 0)), (1, .int x1), (2, .int x2), (4, .int t_1)]) [1, 2, 3, 0] (dkX12_sign (i := 21) rfl) rfl (by decide) rfl ?_
    refine qr_iload_n (n := 46) 2 (dkX12_sign (i := 22) rfl) rfl rfl ?_
    refine qr_bipush (n := 48) 43 (dkX12_sign (i := 23) rfl) rfl (by decide) ?_
    refine qr_j (fun K_2 : Int32 → Option (qv_St × Int32) => ∀ (x4_1 : Int32), VV G Lm X RX12 cX12_sign 5 (some .int) 2 qe_m 55 [(0, .ref (G.2.2.1 0)), (1, .int x1), (2, .int x2), (4, .int x4_1)] [] S0 (K_2 x4_1)) (fun x4_1 => ?_) (fun K_2 hK_2 => ?_)
    · refine qr_iload_n (n := 56) 2 (dkX12_sign (i := 27) rfl) rfl rfl ?_
      refine qr_bipush (n := 58) 45 (dkX12_sign (i := 28) rfl) rfl (by decide) ?_
      refine qr_j (fun K_3 : Int32 → Option (qv_St × Int32) => ∀ (x4_2 : Int32), VV G Lm X RX12 cX12_sign 5 (some .int) 2 qe_m 65 [(0, .ref (G.2.2.1 0)), (1, .int x1), (2, .int x2), (4, .int x4_2)] [] S0 (K_3 x4_2)) (fun x4_2 => ?_) (fun K_3 hK_3 => ?_)
      · refine qr_iload_n (n := 66) 2 (dkX12_sign (i := 32) rfl) rfl rfl ?_
        refine qr_bipush (n := 68) 42 (dkX12_sign (i := 33) rfl) rfl (by decide) ?_
        refine qr_j (fun K_4 : Int32 → Option (qv_St × Int32) => ∀ (x4_3 : Int32), VV G Lm X RX12 cX12_sign 5 (some .int) 2 qe_m 75 [(0, .ref (G.2.2.1 0)), (1, .int x1), (2, .int x2), (4, .int x4_3)] [] S0 (K_4 x4_3)) (fun x4_3 => ?_) (fun K_4 hK_4 => ?_)
        · refine qr_iload_n (n := 76) 2 (dkX12_sign (i := 37) rfl) rfl rfl ?_
          refine qr_bipush (n := 78) 47 (dkX12_sign (i := 38) rfl) rfl (by decide) ?_
          refine qr_j (fun K_5 : Int32 → Option (qv_St × Int32) => ∀ (x4_4 : Int32), VV G Lm X RX12 cX12_sign 5 (some .int) 2 qe_m 85 [(0, .ref (G.2.2.1 0)), (1, .int x1), (2, .int x2), (4, .int x4_4)] [] S0 (K_5 x4_4)) (fun x4_4 => ?_) (fun K_5 hK_5 => ?_)
          · refine qr_iload_n (n := 86) 2 (dkX12_sign (i := 42) rfl) rfl rfl ?_
            refine qr_bipush (n := 88) 60 (dkX12_sign (i := 43) rfl) rfl (by decide) ?_
            refine qr_j (fun K_6 : Int32 → Option (qv_St × Int32) => ∀ (x4_5 : Int32), VV G Lm X RX12 cX12_sign 5 (some .int) 2 qe_m 95 [(0, .ref (G.2.2.1 0)), (1, .int x1), (4, .int x4_5)] [] S0 (K_6 x4_5)) (fun x4_5 => ?_) (fun K_6 hK_6 => ?_)
            · refine qr_aload_n (n := 96) 0 (dkX12_sign (i := 47) rfl) rfl rfl ?_
              refine qr_iload (n := 98) 2 (dkX12_sign (i := 48) rfl) rfl rfl ?_
              refine qr_iload_n (n := 99) 1 (dkX12_sign (i := 49) rfl) rfl rfl ?_
              refine qr_iconst (n := 100) 0 (dkX12_sign (i := 50) rfl) rfl (by decide) ?_
              refine qr_lconst (n := 101) 0 (dkX12_sign (i := 51) rfl) rfl (by decide) ?_
              refine qr_cvu (n := 104) 0 [.int x4_5, .int x1, .int 0, .long 0] (dkX12_sign (i := 52) rfl) rfl kvX12_197 rfl rfl (Nat.le_of_ble_eq_true rfl) rfl rfl lmO rfl (wX12_token G S0 x4_5 x1 0 0) (fun S_1 => ?_)
              refine qr_iconst (n := 105) 1 (dkX12_sign (i := 53) rfl) rfl (by decide) ?_
              exact qr_iret (dkX12_sign (i := 54) rfl) rfl rfl
            · refine qr_icmp_ne (t := 95) (n := 91) (dkX12_sign (i := 44) rfl) (by decide) rfl ?_ ?_
              · refine qr_sub [0, 1, 3] rfl ?_
                exact hK_6 x4_4
              · refine qr_bipush (n := 93) 13 (dkX12_sign (i := 45) rfl) rfl (by decide) ?_
                refine qr_istore (n := 95) (lv2 := [(0, .ref (G.2.2.1 0)), (1, .int x1), (2, .int x2), (4, .int 13)]) [1, 2, 3, 0] (dkX12_sign (i := 46) rfl) rfl (by decide) rfl ?_
                refine qr_sub [0, 1, 3] rfl ?_
                exact hK_6 13
          · refine qr_icmp_ne (t := 85) (n := 81) (dkX12_sign (i := 39) rfl) (by decide) rfl ?_ ?_
            · exact hK_5 x4_3
            · refine qr_bipush (n := 83) 15 (dkX12_sign (i := 40) rfl) rfl (by decide) ?_
              refine qr_istore (n := 85) (lv2 := [(0, .ref (G.2.2.1 0)), (1, .int x1), (2, .int x2), (4, .int 15)]) [1, 2, 3, 0] (dkX12_sign (i := 41) rfl) rfl (by decide) rfl ?_
              exact hK_5 15
        · refine qr_icmp_ne (t := 75) (n := 71) (dkX12_sign (i := 34) rfl) (by decide) rfl ?_ ?_
          · exact hK_4 x4_2
          · refine qr_bipush (n := 73) 10 (dkX12_sign (i := 35) rfl) rfl (by decide) ?_
            refine qr_istore (n := 75) (lv2 := [(0, .ref (G.2.2.1 0)), (1, .int x1), (2, .int x2), (4, .int 10)]) [1, 2, 3, 0] (dkX12_sign (i := 36) rfl) rfl (by decide) rfl ?_
            exact hK_4 10
      · refine qr_icmp_ne (t := 65) (n := 61) (dkX12_sign (i := 29) rfl) (by decide) rfl ?_ ?_
        · exact hK_3 x4_1
        · refine qr_bipush (n := 63) 9 (dkX12_sign (i := 30) rfl) rfl (by decide) ?_
          refine qr_istore (n := 65) (lv2 := [(0, .ref (G.2.2.1 0)), (1, .int x1), (2, .int x2), (4, .int 9)]) [1, 2, 3, 0] (dkX12_sign (i := 31) rfl) rfl (by decide) rfl ?_
          exact hK_3 9
    · refine qr_icmp_ne (t := 55) (n := 51) (dkX12_sign (i := 24) rfl) (by decide) rfl ?_ ?_
      · exact hK_2 t_1
      · refine qr_bipush (n := 53) 8 (dkX12_sign (i := 25) rfl) rfl (by decide) ?_
        refine qr_istore (n := 55) (lv2 := [(0, .ref (G.2.2.1 0)), (1, .int x1), (2, .int x2), (4, .int 8)]) [1, 2, 3, 0] (dkX12_sign (i := 26) rfl) rfl (by decide) rfl ?_
        exact hK_2 8
  · refine qr_icmp_ne (t := 10) (n := 6) (dkX12_sign (i := 2) rfl) (by decide) rfl ?_ ?_
    · refine qr_iload_n (n := 11) 2 (dkX12_sign (i := 5) rfl) rfl rfl ?_
      refine qr_bipush (n := 13) 61 (dkX12_sign (i := 6) rfl) rfl (by decide) ?_
      refine qr_icmp_ne (t := 20) (n := 16) (dkX12_sign (i := 7) rfl) (by decide) rfl ?_ ?_
      · refine qr_iload_n (n := 21) 2 (dkX12_sign (i := 10) rfl) rfl rfl ?_
        refine qr_bipush (n := 23) 40 (dkX12_sign (i := 11) rfl) rfl (by decide) ?_
        refine qr_icmp_ne (t := 31) (n := 26) (dkX12_sign (i := 12) rfl) (by decide) rfl ?_ ?_
        · refine qr_iload_n (n := 32) 2 (dkX12_sign (i := 15) rfl) rfl rfl ?_
          refine qr_bipush (n := 34) 41 (dkX12_sign (i := 16) rfl) rfl (by decide) ?_
          refine qr_icmp_ne (t := 42) (n := 37) (dkX12_sign (i := 17) rfl) (by decide) rfl ?_ ?_
          · refine qr_iconst (n := 43) 3 (dkX12_sign (i := 20) rfl) rfl (by decide) ?_
            refine qr_sub [0, 1, 2] rfl ?_
            exact hK_1 3
          · refine qr_bipush (n := 39) 7 (dkX12_sign (i := 18) rfl) rfl (by decide) ?_
            refine qr_goto (n := 43) (dkX12_sign (i := 19) rfl) (by decide) ?_
            refine qr_sub [0, 1, 2] rfl ?_
            exact hK_1 7
        · refine qr_bipush (n := 28) 6 (dkX12_sign (i := 13) rfl) rfl (by decide) ?_
          refine qr_goto (n := 43) (dkX12_sign (i := 14) rfl) (by decide) ?_
          refine qr_sub [0, 1, 2] rfl ?_
          exact hK_1 6
      · refine qr_iconst (n := 17) 5 (dkX12_sign (i := 8) rfl) rfl (by decide) ?_
        refine qr_goto (n := 43) (dkX12_sign (i := 9) rfl) (by decide) ?_
        refine qr_sub [0, 1, 2] rfl ?_
        exact hK_1 5
    · refine qr_iconst (n := 7) 4 (dkX12_sign (i := 3) rfl) rfl (by decide) ?_
      refine qr_goto (n := 43) (dkX12_sign (i := 4) rfl) (by decide) ?_
      refine qr_sub [0, 1, 2] rfl ?_
      exact hK_1 4
def tbX12_cut : List (Nat × Instr × Nat) := [(0, .aload_n 0, 1), (1, .iconst 0, 1), (2, .putfield 190, 3), (5, .iconst 0, 1), (6, .istore_n 1, 1), (7, .aload_n 0, 1), (8, .getfield 190, 3), (11, .sipush 400, 3), (14, .if_icmp .gt 280, 3), (17, .aload_n 0, 1), (18, .iload_n 1, 1), (19, .invokevirtual 193, 3), (22, .istore_n 2, 1), (23, .iload_n 1, 1), (24, .aload_n 0, 1), (25, .getfield 181, 3), (28, .if_icmp .lt 15, 3), (31, .aload_n 0, 1), (32, .iconst 0, 1), (33, .aload_n 0, 1), (34, .getfield 181, 3), (37, .iconst 0, 1), (38, .lconst 0, 1), (39, .invokevirtual 197, 3), (42, .return_, 1), (43, .iload_n 2, 1), (44, .bipush 9, 2), (46, .if_icmp .eq 21, 3), (49, .iload_n 2, 1), (50, .bipush 10, 2), (52, .if_icmp .eq 15, 3), (55, .iload_n 2, 1), (56, .bipush 13, 2), (58, .if_icmp .eq 9, 3), (61, .iload_n 2, 1), (62, .bipush 32, 2), (64, .if_icmp .ne 9, 3), (67, .iinc 1 1, 3), (70, .goto 221, 3), (73, .iload_n 2, 1), (74, .invokestatic 201, 3), (77, .ifCond .eq 119, 3), (80, .iconst 0, 1), (81, .istore_n 3, 1), (82, .lconst 0, 1), (83, .lstore 4, 2), (85, .aload_n 0, 1), (86, .iload_n 1, 1), (87, .iload_n 3, 1), (88, .iadd, 1), (89, .invokevirtual 193, 3), (92, .invokestatic 201, 3), (95, .ifCond .eq 29, 3), (98, .iload_n 3, 1), (99, .bipush 8, 2), (101, .if_icmp .ge 17, 3), (104, .lload 4, 2), (106, .aload_n 0, 1), (107, .iload_n 1, 1), (108, .iload_n 3, 1), (109, .iadd, 1), (110, .invokevirtual 193, 3), (113, .invokestatic 186, 3), (116, .lstore 4, 2), (118, .iinc 3 1, 3), (121, .goto (-36), 3), (124, .iload_n 3, 1), (125, .bipush 8, 2), (127, .if_icmp .le 7, 3), (130, .iconst 3, 1), (131, .goto 4, 3), (134, .iconst 1, 1), (135, .istore 6, 2), (137, .iload_n 3, 1), (138, .bipush 7, 2), (140, .if_icmp .gt 39, 3), (143, .iconst 0, 1), (144, .istore 7, 2), (146, .iload 7, 2), (148, .bipush 22, 2), (150, .if_icmp .ge 29, 3), (153, .aload_n 0, 1), (154, .getfield 34, 3), (157, .iload 7, 2), (159, .laload, 1), (160, .lload 4, 2), (162, .lcmp, 1), (163, .ifCond .ne 10, 3), (166, .bipush 20, 2), (168, .iload 7, 2), (170, .iadd, 1), (171, .istore 6, 2), (173, .iinc 7 1, 3), (176, .goto (-30), 3), (179, .aload_n 0, 1), (180, .iload 6, 2), (182, .iload_n 1, 1), (183, .iconst 0, 1), (184, .lload 4, 2), (186, .invokevirtual 197, 3), (189, .iload_n 1, 1), (190, .iload_n 3, 1), (191, .iadd, 1), (192, .istore_n 1, 1), (193, .goto 98, 3), (196, .iload_n 2, 1), (197, .invokestatic 205, 3), (200, .ifCond .eq 75, 3), (203, .iconst 0, 1), (204, .istore_n 3, 1), (205, .iconst 0, 1), (206, .istore 4, 2), (208, .aload_n 0, 1), (209, .iload_n 1, 1), (210, .iload_n 3, 1), (211, .iadd, 1), (212, .invokevirtual 193, 3), (215, .invokestatic 205, 3), (218, .ifCond .eq 32, 3), (221, .iload_n 3, 1), (222, .iconst 4, 1), (223, .if_icmp .ge 21, 3), (226, .bipush 10, 2), (228, .iload 4, 2), (230, .imul, 1), (231, .aload_n 0, 1), (232, .iload_n 1, 1), (233, .iload_n 3, 1), (234, .iadd, 1), (235, .invokevirtual 193, 3), (238, .iadd, 1), (239, .bipush 48, 2), (241, .isub, 1), (242, .istore 4, 2), (244, .iinc 3 1, 3), (247, .goto (-39), 3), (250, .aload_n 0, 1), (251, .iload_n 3, 1), (252, .iconst 4, 1), (253, .if_icmp .le 7, 3), (256, .iconst 3, 1), (257, .goto 4, 3), (260, .iconst 2, 1), (261, .iload_n 1, 1), (262, .iload 4, 2), (264, .lconst 0, 1), (265, .invokevirtual 197, 3), (268, .iload_n 1, 1), (269, .iload_n 3, 1), (270, .iadd, 1), (271, .istore_n 1, 1), (272, .goto 19, 3), (275, .iload_n 1, 1), (276, .aload_n 0, 1), (277, .iload_n 1, 1), (278, .iload_n 2, 1), (279, .aload_n 0, 1), (280, .iload_n 1, 1), (281, .iconst 1, 1), (282, .iadd, 1), (283, .invokevirtual 193, 3), (286, .invokevirtual 208, 3), (289, .iadd, 1), (290, .istore_n 1, 1), (291, .goto (-284), 3), (294, .return_, 1)]
set_option maxRecDepth 20000 in
theorem daX12_cut : ∀ x ∈ tbX12_cut, decode cX12_cut x.1 = .ok x.2 := by decide +kernel
theorem dkX12_cut {i pc n : Nat} {ins : Instr} (h : tbX12_cut[i]? = some (pc, ins, n)) : decode cX12_cut pc = .ok (ins, n) := daX12_cut (pc, ins, n) (List.mem_of_getElem? h)
def fX12_cut (S0 : qv_St) : Option qv_St :=
  qv_b (qv_si S0 0 10 0) fun S_1 =>
  qv_j (fun (S_2 : qv_St) =>
    (fX12_token S_2 0 (S_2.1 0 4) 0 0).bind fun S_3 =>
    some S_3) fun K_1 =>
  qv_lp2 qv_N (fun self_1 (S_4 : qv_St) (x1_1 : Int32) =>
    if 400 < (S_4.1 0 10) then
      some S_4
    else
      (fX12_byteAt S_4 x1_1).bind fun r_1 =>
      if x1_1 < (S_4.1 0 4) then
        qv_j (fun (S_5 : qv_St) (x1_2 : Int32) =>
          self_1 S_5 x1_2) fun K_2 =>
        qv_j (
          K_2 S_4 (x1_1 + 1)) fun K_3 =>
        if r_1 = 9 then
          K_3
        else
          if r_1 = 10 then
            K_3
          else
            if r_1 = 13 then
              K_3
            else
              if r_1 = 32 then
                K_3
              else
                (fX12_isLetter r_1).bind fun r_2 =>
                if r_2 = 0 then
                  (fX12_isDigit r_1).bind fun r_3 =>
                  if r_3 = 0 then
                    (fX12_byteAt S_4 (x1_1 + 1)).bind fun r_4 =>
                    qv_cm (fX12_sign S_4 x1_1 r_1 r_4) fun S_6 r_5 =>
                    qv_b ((x1_1 + r_5) : Int32) fun x1_3 =>
                    K_2 S_6 x1_3
                  else
                    qv_j (fun (x3_1 : Int32) (x4_1 : Int32) =>
                      qv_j (fun (t_1 : Int32) =>
                        (fX12_token S_4 t_1 x1_1 x4_1 0).bind fun S_7 =>
                        qv_b ((x1_1 + x3_1) : Int32) fun x1_4 =>
                        K_2 S_7 x1_4) fun K_5 =>
                      if x3_1 ≤ 4 then
                        K_5 2
                      else
                        K_5 3) fun K_4 =>
                    qv_lp2 qv_N (fun self_2 (x3_2 : Int32) (x4_2 : Int32) =>
                      (fX12_byteAt S_4 (x1_1 + x3_2)).bind fun r_6 =>
                      (fX12_isDigit r_6).bind fun r_7 =>
                      if r_7 = 0 then
                        K_4 x3_2 x4_2
                      else
                        qv_j (fun (x4_3 : Int32) =>
                          self_2 (x3_2 + 1) x4_3) fun K_6 =>
                        if 4 ≤ x3_2 then
                          K_6 x4_2
                        else
                          (fX12_byteAt S_4 (x1_1 + x3_2)).bind fun r_8 =>
                          qv_b ((((10 * x4_2) + r_8) - 48) : Int32) fun x4_4 =>
                          K_6 x4_4) 0 0
                else
                  qv_j (fun (x3_3 : Int32) (x4_5 : Int64) =>
                    qv_j (fun (t_2 : Int32) =>
                      qv_j (fun (x6_1 : Int32) =>
                        (fX12_token S_4 x6_1 x1_1 0 x4_5).bind fun S_8 =>
                        qv_b ((x1_1 + x3_3) : Int32) fun x1_5 =>
                        K_2 S_8 x1_5) fun K_9 =>
                      if 7 < x3_3 then
                        K_9 t_2
                      else
                        qv_lp2 qv_N (fun self_3 (x6_2 : Int32) (x7_1 : Int32) =>
                          if 22 ≤ x7_1 then
                            K_9 x6_2
                          else
                            qv_ck x7_1 22 <|
                            qv_j (fun (x6_3 : Int32) =>
                              self_3 x6_3 (x7_1 + 1)) fun K_10 =>
                            if (lg_cmp (S_4.2 7 (Int32.toNatClampNeg x7_1)) x4_5) = 0 then
                              qv_b ((20 + x7_1) : Int32) fun x6_4 =>
                              K_10 x6_4
                            else
                              K_10 x6_2) t_2 0) fun K_8 =>
                    if x3_3 ≤ 8 then
                      K_8 1
                    else
                      K_8 3) fun K_7 =>
                  qv_lp2 qv_N (fun self_4 (x3_4 : Int32) (x4_6 : Int64) =>
                    (fX12_byteAt S_4 (x1_1 + x3_4)).bind fun r_9 =>
                    (fX12_isLetter r_9).bind fun r_10 =>
                    if r_10 = 0 then
                      K_7 x3_4 x4_6
                    else
                      qv_j (fun (x4_7 : Int64) =>
                        self_4 (x3_4 + 1) x4_7) fun K_11 =>
                      if 8 ≤ x3_4 then
                        K_11 x4_6
                      else
                        (fX12_byteAt S_4 (x1_1 + x3_4)).bind fun r_11 =>
                        (fX12_appends x4_6 r_11).bind fun r_12 =>
                        K_11 r_12) 0 0
      else
        K_1 S_4) S_1 0
set_option maxRecDepth 20000 in
set_option maxHeartbeats 4000000 in
theorem wX12_cut (G : qv_GT) (S0 : qv_St) : ∀ r, fX12_cut S0 = some r → Cn G Lm yX12_cut cX12_cut 8 none 3 [.ref (G.2.2.1 0)] S0 (qe_u r) := by
  refine cn_of (own := RX12) (emb := qe_u) (lv := [(0, .ref (G.2.2.1 0))]) rfl rfl (Nat.le_of_ble_eq_true rfl) rfl (fun X => ?_)
  unfold fX12_cut
  refine qr_aload_n (n := 1) 0 (dkX12_cut (i := 0) rfl) rfl rfl ?_
  refine qr_iconst (n := 2) 0 (dkX12_cut (i := 1) rfl) rfl (by decide) ?_
  refine qr_puti (n := 5) 0 10 (dkX12_cut (i := 2) rfl) rfl lmO rfl gnX12 (Nat.le_of_ble_eq_true rfl) kfX12_190 rfl tyX12_ok nmX12 rfl rfl (fun S_1 => ?_)
  refine qr_iconst (n := 6) 0 (dkX12_cut (i := 3) rfl) rfl (by decide) ?_
  refine qr_istore_n (n := 7) (lv2 := [(0, .ref (G.2.2.1 0)), (1, .int 0)]) [1, 0] (dkX12_cut (i := 4) rfl) rfl rfl (by decide) rfl ?_
  refine qr_j (fun K_1 : qv_St → Option qv_St => ∀ (S_2 : qv_St), VV G Lm X RX12 cX12_cut 8 none 3 qe_u 31 [(0, .ref (G.2.2.1 0))] [] S_2 (K_1 S_2)) (fun S_2 => ?_) (fun K_1 hK_1 => ?_)
  · refine qr_aload_n (n := 32) 0 (dkX12_cut (i := 17) rfl) rfl rfl ?_
    refine qr_iconst (n := 33) 0 (dkX12_cut (i := 18) rfl) rfl (by decide) ?_
    refine qr_aload_n (n := 34) 0 (dkX12_cut (i := 19) rfl) rfl rfl ?_
    refine qr_geti (n := 37) 0 4 (dkX12_cut (i := 20) rfl) rfl lmO rfl gnX12 (Nat.le_of_ble_eq_true rfl) kfX12_181 rfl ?_
    refine qr_iconst (n := 38) 0 (dkX12_cut (i := 21) rfl) rfl (by decide) ?_
    refine qr_lconst (n := 39) 0 (dkX12_cut (i := 22) rfl) rfl (by decide) ?_
    refine qr_cvu (n := 42) 0 [.int 0, .int (S_2.1 0 4), .int 0, .long 0] (dkX12_cut (i := 23) rfl) rfl kvX12_197 rfl rfl (Nat.le_of_ble_eq_true rfl) rfl rfl lmO rfl (wX12_token G S_2 0 (S_2.1 0 4) 0 0) (fun S_3 => ?_)
    exact qr_vret (dkX12_cut (i := 24) rfl) rfl rfl
  · refine qr_lp2 (fun (S_4 : qv_St) (x1_1 : Int32) => [(0, .ref (G.2.2.1 0)), (1, .int x1_1)]) (fun (S_4 : qv_St) (x1_1 : Int32) => S_4) (fun self_1 hself_1 S_4 x1_1 => ?_) qv_N S_1 0
    refine qr_aload_n (n := 8) 0 (dkX12_cut (i := 5) rfl) rfl rfl ?_
    refine qr_geti (n := 11) 0 10 (dkX12_cut (i := 6) rfl) rfl lmO rfl gnX12 (Nat.le_of_ble_eq_true rfl) kfX12_190 rfl ?_
    refine qr_sipush (n := 14) 400 (dkX12_cut (i := 7) rfl) rfl (by decide) ?_
    refine qr_icmp_gt (t := 294) (n := 17) (dkX12_cut (i := 8) rfl) (by decide) rfl ?_ ?_
    · exact qr_vret (dkX12_cut (i := 165) rfl) rfl rfl
    · refine qr_aload_n (n := 18) 0 (dkX12_cut (i := 9) rfl) rfl rfl ?_
      refine qr_iload_n (n := 19) 1 (dkX12_cut (i := 10) rfl) rfl rfl ?_
      refine qr_cvi (n := 22) 0 [.int x1_1] (dkX12_cut (i := 11) rfl) rfl kvX12_193 rfl rfl (Nat.le_of_ble_eq_true rfl) rfl rfl lmO rfl (wX12_byteAt G S_4 x1_1) (fun r_1 => ?_)
      refine qr_istore_n (n := 23) (lv2 := [(0, .ref (G.2.2.1 0)), (1, .int x1_1), (2, .int r_1)]) [1, 2, 0] (dkX12_cut (i := 12) rfl) rfl rfl (by decide) rfl ?_
      refine qr_iload_n (n := 24) 1 (dkX12_cut (i := 13) rfl) rfl rfl ?_
      refine qr_aload_n (n := 25) 0 (dkX12_cut (i := 14) rfl) rfl rfl ?_
      refine qr_geti (n := 28) 0 4 (dkX12_cut (i := 15) rfl) rfl lmO rfl gnX12 (Nat.le_of_ble_eq_true rfl) kfX12_181 rfl ?_
      refine qr_icmp_lt (t := 43) (n := 31) (dkX12_cut (i := 16) rfl) (by decide) rfl ?_ ?_
      · refine qr_iload_n (n := 44) 2 (dkX12_cut (i := 25) rfl) rfl rfl ?_
        refine qr_bipush (n := 46) 9 (dkX12_cut (i := 26) rfl) rfl (by decide) ?_
        refine qr_j (fun K_2 : qv_St → Int32 → Option qv_St => ∀ (S_5 : qv_St) (x1_2 : Int32), VV G Lm X RX12 cX12_cut 8 none 3 qe_u 291 [(0, .ref (G.2.2.1 0)), (1, .int x1_2)] [] S_5 (K_2 S_5 x1_2)) (fun S_5 x1_2 => ?_) (fun K_2 hK_2 => ?_)
        · refine qr_goto (n := 7) (dkX12_cut (i := 164) rfl) (by decide) ?_
          exact hself_1 S_5 x1_2
        · refine qr_j (fun K_3 : Option qv_St => VV G Lm X RX12 cX12_cut 8 none 3 qe_u 67 [(0, .ref (G.2.2.1 0)), (1, .int x1_1)] [] S_4 (K_3)) (?_) (fun K_3 hK_3 => ?_)
          · refine qr_iinc (n := 70) (v := 1) (lv2 := [(0, .ref (G.2.2.1 0)), (1, .int (x1_1 + 1))]) 1 [1, 0] (dkX12_cut (i := 37) rfl) rfl rfl (by decide) (by decide) rfl ?_
            refine qr_goto (n := 291) (dkX12_cut (i := 38) rfl) (by decide) ?_
            exact hK_2 S_4 (x1_1 + 1)
          · refine qr_icmp_eq (t := 67) (n := 49) (dkX12_cut (i := 27) rfl) (by decide) rfl ?_ ?_
            · refine qr_sub [0, 1] rfl ?_
              exact hK_3
            · refine qr_iload_n (n := 50) 2 (dkX12_cut (i := 28) rfl) rfl rfl ?_
              refine qr_bipush (n := 52) 10 (dkX12_cut (i := 29) rfl) rfl (by decide) ?_
              refine qr_icmp_eq (t := 67) (n := 55) (dkX12_cut (i := 30) rfl) (by decide) rfl ?_ ?_
              · refine qr_sub [0, 1] rfl ?_
                exact hK_3
              · refine qr_iload_n (n := 56) 2 (dkX12_cut (i := 31) rfl) rfl rfl ?_
                refine qr_bipush (n := 58) 13 (dkX12_cut (i := 32) rfl) rfl (by decide) ?_
                refine qr_icmp_eq (t := 67) (n := 61) (dkX12_cut (i := 33) rfl) (by decide) rfl ?_ ?_
                · refine qr_sub [0, 1] rfl ?_
                  exact hK_3
                · refine qr_iload_n (n := 62) 2 (dkX12_cut (i := 34) rfl) rfl rfl ?_
                  refine qr_bipush (n := 64) 32 (dkX12_cut (i := 35) rfl) rfl (by decide) ?_
                  refine qr_icmp_ne (t := 73) (n := 67) (dkX12_cut (i := 36) rfl) (by decide) rfl ?_ ?_
                  · refine qr_iload_n (n := 74) 2 (dkX12_cut (i := 39) rfl) rfl rfl ?_
                    refine qr_csi (n := 77) [.int r_1] (dkX12_cut (i := 40) rfl) rfl kvX12_201 rfl rfl (Nat.le_of_ble_eq_true rfl) rfl rfl (wX12_isLetter G S_4 r_1) (fun r_2 => ?_)
                    refine qr_if_eq (t := 196) (n := 80) (dkX12_cut (i := 41) rfl) (by decide) rfl ?_ ?_
                    · refine qr_iload_n (n := 197) 2 (dkX12_cut (i := 105) rfl) rfl rfl ?_
                      refine qr_csi (n := 200) [.int r_1] (dkX12_cut (i := 106) rfl) rfl kvX12_205 rfl rfl (Nat.le_of_ble_eq_true rfl) rfl rfl (wX12_isDigit G S_4 r_1) (fun r_3 => ?_)
                      refine qr_if_eq (t := 275) (n := 203) (dkX12_cut (i := 107) rfl) (by decide) rfl ?_ ?_
                      · refine qr_iload_n (n := 276) 1 (dkX12_cut (i := 152) rfl) rfl rfl ?_
                        refine qr_aload_n (n := 277) 0 (dkX12_cut (i := 153) rfl) rfl rfl ?_
                        refine qr_iload_n (n := 278) 1 (dkX12_cut (i := 154) rfl) rfl rfl ?_
                        refine qr_iload_n (n := 279) 2 (dkX12_cut (i := 155) rfl) rfl rfl ?_
                        refine qr_aload_n (n := 280) 0 (dkX12_cut (i := 156) rfl) rfl rfl ?_
                        refine qr_iload_n (n := 281) 1 (dkX12_cut (i := 157) rfl) rfl rfl ?_
                        refine qr_iconst (n := 282) 1 (dkX12_cut (i := 158) rfl) rfl (by decide) ?_
                        refine qr_iadd (n := 283) (dkX12_cut (i := 159) rfl) rfl ?_
                        refine qr_cvi (n := 286) 0 [.int (x1_1 + 1)] (dkX12_cut (i := 160) rfl) rfl kvX12_193 rfl rfl (Nat.le_of_ble_eq_true rfl) rfl rfl lmO rfl (wX12_byteAt G S_4 (x1_1 + 1)) (fun r_4 => ?_)
                        refine qr_cvm (n := 289) 0 [.int x1_1, .int r_1, .int r_4] (dkX12_cut (i := 161) rfl) rfl kvX12_208 rfl rfl (Nat.le_of_ble_eq_true rfl) rfl rfl lmO rfl (wX12_sign G S_4 x1_1 r_1 r_4) (fun S_6 r_5 => ?_)
                        refine qr_iadd (n := 290) (dkX12_cut (i := 162) rfl) rfl ?_
                        refine qr_b (α := Int32) (x1_1 + r_5) (lvf := fun _ => [(0, .ref (G.2.2.1 0)), (1, .int x1_1), (2, .int r_1)]) (stf := fun z => .int z :: []) (Sf := fun _ => S_6) (fun x1_3 => ?_)
                        refine qr_istore_n (n := 291) (lv2 := [(0, .ref (G.2.2.1 0)), (1, .int x1_3), (2, .int r_1)]) [1, 0, 2] (dkX12_cut (i := 163) rfl) rfl rfl (by decide) rfl ?_
                        refine qr_sub [0, 1] rfl ?_
                        exact hK_2 S_6 x1_3
                      · refine qr_iconst (n := 204) 0 (dkX12_cut (i := 108) rfl) rfl (by decide) ?_
                        refine qr_istore_n (n := 205) (lv2 := [(0, .ref (G.2.2.1 0)), (1, .int x1_1), (2, .int r_1), (3, .int 0)]) [1, 2, 3, 0] (dkX12_cut (i := 109) rfl) rfl rfl (by decide) rfl ?_
                        refine qr_iconst (n := 206) 0 (dkX12_cut (i := 110) rfl) rfl (by decide) ?_
                        refine qr_istore (n := 208) (lv2 := [(0, .ref (G.2.2.1 0)), (1, .int x1_1), (2, .int r_1), (3, .int 0), (4, .int 0)]) [1, 2, 3, 4, 0] (dkX12_cut (i := 111) rfl) rfl (by decide) rfl ?_
                        refine qr_sub [0, 1, 3, 4] rfl ?_
                        refine qr_j (fun K_4 : Int32 → Int32 → Option qv_St => ∀ (x3_1 : Int32) (x4_1 : Int32), VV G Lm X RX12 cX12_cut 8 none 3 qe_u 250 [(0, .ref (G.2.2.1 0)), (1, .int x1_1), (3, .int x3_1), (4, .int x4_1)] [] S_4 (K_4 x3_1 x4_1)) (fun x3_1 x4_1 => ?_) (fun K_4 hK_4 => ?_)
                        · refine qr_aload_n (n := 251) 0 (dkX12_cut (i := 136) rfl) rfl rfl ?_
                          refine qr_iload_n (n := 252) 2 (dkX12_cut (i := 137) rfl) rfl rfl ?_
                          refine qr_iconst (n := 253) 4 (dkX12_cut (i := 138) rfl) rfl (by decide) ?_
                          refine qr_j (fun K_5 : Int32 → Option qv_St => ∀ (t_1 : Int32), VV G Lm X RX12 cX12_cut 8 none 3 qe_u 261 [(0, .ref (G.2.2.1 0)), (1, .int x1_1), (3, .int x3_1), (4, .int x4_1)] [.int t_1, .ref (G.2.2.1 0)] S_4 (K_5 t_1)) (fun t_1 => ?_) (fun K_5 hK_5 => ?_)
                          · refine qr_iload_n (n := 262) 1 (dkX12_cut (i := 143) rfl) rfl rfl ?_
                            refine qr_iload (n := 264) 3 (dkX12_cut (i := 144) rfl) rfl rfl ?_
                            refine qr_lconst (n := 265) 0 (dkX12_cut (i := 145) rfl) rfl (by decide) ?_
                            refine qr_cvu (n := 268) 0 [.int t_1, .int x1_1, .int x4_1, .long 0] (dkX12_cut (i := 146) rfl) rfl kvX12_197 rfl rfl (Nat.le_of_ble_eq_true rfl) rfl rfl lmO rfl (wX12_token G S_4 t_1 x1_1 x4_1 0) (fun S_7 => ?_)
                            refine qr_iload_n (n := 269) 1 (dkX12_cut (i := 147) rfl) rfl rfl ?_
                            refine qr_iload_n (n := 270) 2 (dkX12_cut (i := 148) rfl) rfl rfl ?_
                            refine qr_iadd (n := 271) (dkX12_cut (i := 149) rfl) rfl ?_
                            refine qr_b (α := Int32) (x1_1 + x3_1) (lvf := fun _ => [(0, .ref (G.2.2.1 0)), (1, .int x1_1), (3, .int x3_1), (4, .int x4_1)]) (stf := fun z => .int z :: []) (Sf := fun _ => S_7) (fun x1_4 => ?_)
                            refine qr_istore_n (n := 272) (lv2 := [(0, .ref (G.2.2.1 0)), (1, .int x1_4), (3, .int x3_1), (4, .int x4_1)]) [1, 0, 2, 3] (dkX12_cut (i := 150) rfl) rfl rfl (by decide) rfl ?_
                            refine qr_goto (n := 291) (dkX12_cut (i := 151) rfl) (by decide) ?_
                            refine qr_sub [0, 1] rfl ?_
                            exact hK_2 S_7 x1_4
                          · refine qr_icmp_le (t := 260) (n := 256) (dkX12_cut (i := 139) rfl) (by decide) rfl ?_ ?_
                            · refine qr_iconst (n := 261) 2 (dkX12_cut (i := 142) rfl) rfl (by decide) ?_
                              exact hK_5 2
                            · refine qr_iconst (n := 257) 3 (dkX12_cut (i := 140) rfl) rfl (by decide) ?_
                              refine qr_goto (n := 261) (dkX12_cut (i := 141) rfl) (by decide) ?_
                              exact hK_5 3
                        · refine qr_lp2 (fun (x3_2 : Int32) (x4_2 : Int32) => [(0, .ref (G.2.2.1 0)), (1, .int x1_1), (3, .int x3_2), (4, .int x4_2)]) (fun (x3_2 : Int32) (x4_2 : Int32) => S_4) (fun self_2 hself_2 x3_2 x4_2 => ?_) qv_N 0 0
                          refine qr_aload_n (n := 209) 0 (dkX12_cut (i := 112) rfl) rfl rfl ?_
                          refine qr_iload_n (n := 210) 1 (dkX12_cut (i := 113) rfl) rfl rfl ?_
                          refine qr_iload_n (n := 211) 2 (dkX12_cut (i := 114) rfl) rfl rfl ?_
                          refine qr_iadd (n := 212) (dkX12_cut (i := 115) rfl) rfl ?_
                          refine qr_cvi (n := 215) 0 [.int (x1_1 + x3_2)] (dkX12_cut (i := 116) rfl) rfl kvX12_193 rfl rfl (Nat.le_of_ble_eq_true rfl) rfl rfl lmO rfl (wX12_byteAt G S_4 (x1_1 + x3_2)) (fun r_6 => ?_)
                          refine qr_csi (n := 218) [.int r_6] (dkX12_cut (i := 117) rfl) rfl kvX12_205 rfl rfl (Nat.le_of_ble_eq_true rfl) rfl rfl (wX12_isDigit G S_4 r_6) (fun r_7 => ?_)
                          refine qr_if_eq (t := 250) (n := 221) (dkX12_cut (i := 118) rfl) (by decide) rfl ?_ ?_
                          · exact hK_4 x3_2 x4_2
                          · refine qr_iload_n (n := 222) 2 (dkX12_cut (i := 119) rfl) rfl rfl ?_
                            refine qr_iconst (n := 223) 4 (dkX12_cut (i := 120) rfl) rfl (by decide) ?_
                            refine qr_j (fun K_6 : Int32 → Option qv_St => ∀ (x4_3 : Int32), VV G Lm X RX12 cX12_cut 8 none 3 qe_u 244 [(0, .ref (G.2.2.1 0)), (1, .int x1_1), (3, .int x3_2), (4, .int x4_3)] [] S_4 (K_6 x4_3)) (fun x4_3 => ?_) (fun K_6 hK_6 => ?_)
                            · refine qr_iinc (n := 247) (v := 1) (lv2 := [(0, .ref (G.2.2.1 0)), (1, .int x1_1), (3, .int (x3_2 + 1)), (4, .int x4_3)]) 2 [1, 2, 0, 3] (dkX12_cut (i := 134) rfl) rfl rfl (by decide) (by decide) rfl ?_
                              refine qr_goto (n := 208) (dkX12_cut (i := 135) rfl) (by decide) ?_
                              exact hself_2 (x3_2 + 1) x4_3
                            · refine qr_icmp_ge (t := 244) (n := 226) (dkX12_cut (i := 121) rfl) (by decide) rfl ?_ ?_
                              · exact hK_6 x4_2
                              · refine qr_bipush (n := 228) 10 (dkX12_cut (i := 122) rfl) rfl (by decide) ?_
                                refine qr_iload (n := 230) 3 (dkX12_cut (i := 123) rfl) rfl rfl ?_
                                refine qr_imul (n := 231) (dkX12_cut (i := 124) rfl) rfl ?_
                                refine qr_aload_n (n := 232) 0 (dkX12_cut (i := 125) rfl) rfl rfl ?_
                                refine qr_iload_n (n := 233) 1 (dkX12_cut (i := 126) rfl) rfl rfl ?_
                                refine qr_iload_n (n := 234) 2 (dkX12_cut (i := 127) rfl) rfl rfl ?_
                                refine qr_iadd (n := 235) (dkX12_cut (i := 128) rfl) rfl ?_
                                refine qr_cvi (n := 238) 0 [.int (x1_1 + x3_2)] (dkX12_cut (i := 129) rfl) rfl kvX12_193 rfl rfl (Nat.le_of_ble_eq_true rfl) rfl rfl lmO rfl (wX12_byteAt G S_4 (x1_1 + x3_2)) (fun r_8 => ?_)
                                refine qr_iadd (n := 239) (dkX12_cut (i := 130) rfl) rfl ?_
                                refine qr_bipush (n := 241) 48 (dkX12_cut (i := 131) rfl) rfl (by decide) ?_
                                refine qr_isub (n := 242) (dkX12_cut (i := 132) rfl) rfl ?_
                                refine qr_b (α := Int32) (((10 * x4_2) + r_8) - 48) (lvf := fun _ => [(0, .ref (G.2.2.1 0)), (1, .int x1_1), (3, .int x3_2), (4, .int x4_2)]) (stf := fun z => .int z :: []) (Sf := fun _ => S_4) (fun x4_4 => ?_)
                                refine qr_istore (n := 244) (lv2 := [(0, .ref (G.2.2.1 0)), (1, .int x1_1), (3, .int x3_2), (4, .int x4_4)]) [1, 2, 3, 0] (dkX12_cut (i := 133) rfl) rfl (by decide) rfl ?_
                                exact hK_6 x4_4
                    · refine qr_iconst (n := 81) 0 (dkX12_cut (i := 42) rfl) rfl (by decide) ?_
                      refine qr_istore_n (n := 82) (lv2 := [(0, .ref (G.2.2.1 0)), (1, .int x1_1), (2, .int r_1), (3, .int 0)]) [1, 2, 3, 0] (dkX12_cut (i := 43) rfl) rfl rfl (by decide) rfl ?_
                      refine qr_lconst (n := 83) 0 (dkX12_cut (i := 44) rfl) rfl (by decide) ?_
                      refine qr_lstore (n := 85) (lv2 := [(0, .ref (G.2.2.1 0)), (1, .int x1_1), (2, .int r_1), (3, .int 0), (4, .long 0)]) [1, 2, 3, 4, 0] (dkX12_cut (i := 45) rfl) rfl (by decide) rfl ?_
                      refine qr_sub [0, 1, 3, 4] rfl ?_
                      refine qr_j (fun K_7 : Int32 → Int64 → Option qv_St => ∀ (x3_3 : Int32) (x4_5 : Int64), VV G Lm X RX12 cX12_cut 8 none 3 qe_u 124 [(0, .ref (G.2.2.1 0)), (1, .int x1_1), (3, .int x3_3), (4, .long x4_5)] [] S_4 (K_7 x3_3 x4_5)) (fun x3_3 x4_5 => ?_) (fun K_7 hK_7 => ?_)
                      · refine qr_iload_n (n := 125) 2 (dkX12_cut (i := 66) rfl) rfl rfl ?_
                        refine qr_bipush (n := 127) 8 (dkX12_cut (i := 67) rfl) rfl (by decide) ?_
                        refine qr_j (fun K_8 : Int32 → Option qv_St => ∀ (t_2 : Int32), VV G Lm X RX12 cX12_cut 8 none 3 qe_u 135 [(0, .ref (G.2.2.1 0)), (1, .int x1_1), (3, .int x3_3), (4, .long x4_5)] [.int t_2] S_4 (K_8 t_2)) (fun t_2 => ?_) (fun K_8 hK_8 => ?_)
                        · refine qr_istore (n := 137) (lv2 := [(0, .ref (G.2.2.1 0)), (1, .int x1_1), (3, .int x3_3), (4, .long x4_5), (6, .int t_2)]) [1, 2, 3, 4, 0] (dkX12_cut (i := 72) rfl) rfl (by decide) rfl ?_
                          refine qr_iload_n (n := 138) 2 (dkX12_cut (i := 73) rfl) rfl rfl ?_
                          refine qr_bipush (n := 140) 7 (dkX12_cut (i := 74) rfl) rfl (by decide) ?_
                          refine qr_j (fun K_9 : Int32 → Option qv_St => ∀ (x6_1 : Int32), VV G Lm X RX12 cX12_cut 8 none 3 qe_u 179 [(0, .ref (G.2.2.1 0)), (1, .int x1_1), (3, .int x3_3), (4, .long x4_5), (6, .int x6_1)] [] S_4 (K_9 x6_1)) (fun x6_1 => ?_) (fun K_9 hK_9 => ?_)
                          · refine qr_aload_n (n := 180) 0 (dkX12_cut (i := 94) rfl) rfl rfl ?_
                            refine qr_iload (n := 182) 4 (dkX12_cut (i := 95) rfl) rfl rfl ?_
                            refine qr_iload_n (n := 183) 1 (dkX12_cut (i := 96) rfl) rfl rfl ?_
                            refine qr_iconst (n := 184) 0 (dkX12_cut (i := 97) rfl) rfl (by decide) ?_
                            refine qr_lload (n := 186) 3 (dkX12_cut (i := 98) rfl) rfl rfl ?_
                            refine qr_cvu (n := 189) 0 [.int x6_1, .int x1_1, .int 0, .long x4_5] (dkX12_cut (i := 99) rfl) rfl kvX12_197 rfl rfl (Nat.le_of_ble_eq_true rfl) rfl rfl lmO rfl (wX12_token G S_4 x6_1 x1_1 0 x4_5) (fun S_8 => ?_)
                            refine qr_iload_n (n := 190) 1 (dkX12_cut (i := 100) rfl) rfl rfl ?_
                            refine qr_iload_n (n := 191) 2 (dkX12_cut (i := 101) rfl) rfl rfl ?_
                            refine qr_iadd (n := 192) (dkX12_cut (i := 102) rfl) rfl ?_
                            refine qr_b (α := Int32) (x1_1 + x3_3) (lvf := fun _ => [(0, .ref (G.2.2.1 0)), (1, .int x1_1), (3, .int x3_3), (4, .long x4_5), (6, .int x6_1)]) (stf := fun z => .int z :: []) (Sf := fun _ => S_8) (fun x1_5 => ?_)
                            refine qr_istore_n (n := 193) (lv2 := [(0, .ref (G.2.2.1 0)), (1, .int x1_5), (3, .int x3_3), (4, .long x4_5), (6, .int x6_1)]) [1, 0, 2, 3, 4] (dkX12_cut (i := 103) rfl) rfl rfl (by decide) rfl ?_
                            refine qr_goto (n := 291) (dkX12_cut (i := 104) rfl) (by decide) ?_
                            refine qr_sub [0, 1] rfl ?_
                            exact hK_2 S_8 x1_5
                          · refine qr_icmp_gt (t := 179) (n := 143) (dkX12_cut (i := 75) rfl) (by decide) rfl ?_ ?_
                            · exact hK_9 t_2
                            · refine qr_iconst (n := 144) 0 (dkX12_cut (i := 76) rfl) rfl (by decide) ?_
                              refine qr_istore (n := 146) (lv2 := [(0, .ref (G.2.2.1 0)), (1, .int x1_1), (3, .int x3_3), (4, .long x4_5), (6, .int t_2), (7, .int 0)]) [1, 2, 3, 4, 5, 0] (dkX12_cut (i := 77) rfl) rfl (by decide) rfl ?_
                              refine qr_lp2 (fun (x6_2 : Int32) (x7_1 : Int32) => [(0, .ref (G.2.2.1 0)), (1, .int x1_1), (3, .int x3_3), (4, .long x4_5), (6, .int x6_2), (7, .int x7_1)]) (fun (x6_2 : Int32) (x7_1 : Int32) => S_4) (fun self_3 hself_3 x6_2 x7_1 => ?_) qv_N t_2 0
                              refine qr_iload (n := 148) 5 (dkX12_cut (i := 78) rfl) rfl rfl ?_
                              refine qr_bipush (n := 150) 22 (dkX12_cut (i := 79) rfl) rfl (by decide) ?_
                              refine qr_icmp_ge (t := 179) (n := 153) (dkX12_cut (i := 80) rfl) (by decide) rfl ?_ ?_
                              · refine qr_sub [0, 1, 2, 3, 4] rfl ?_
                                exact hK_9 x6_2
                              · refine qr_aload_n (n := 154) 0 (dkX12_cut (i := 81) rfl) rfl rfl ?_
                                refine qr_geta (n := 157) 0 9 7 (dkX12_cut (i := 82) rfl) rfl lmO rfl gnX12 (Nat.le_of_ble_eq_true rfl) kfX12_34 rfl ?_
                                refine qr_iload (n := 159) 5 (dkX12_cut (i := 83) rfl) rfl rfl ?_
                                refine qr_lald (n := 160) 7 22 (dkX12_cut (i := 84) rfl) rfl lmA_7 ?_
                                refine qr_lload (n := 162) 3 (dkX12_cut (i := 85) rfl) rfl rfl ?_
                                refine qr_lcmp (n := 163) (dkX12_cut (i := 86) rfl) rfl ?_
                                refine qr_j (fun K_10 : Int32 → Option qv_St => ∀ (x6_3 : Int32), VV G Lm X RX12 cX12_cut 8 none 3 qe_u 173 [(0, .ref (G.2.2.1 0)), (1, .int x1_1), (3, .int x3_3), (4, .long x4_5), (6, .int x6_3), (7, .int x7_1)] [] S_4 (K_10 x6_3)) (fun x6_3 => ?_) (fun K_10 hK_10 => ?_)
                                · refine qr_iinc (n := 176) (v := 1) (lv2 := [(0, .ref (G.2.2.1 0)), (1, .int x1_1), (3, .int x3_3), (4, .long x4_5), (6, .int x6_3), (7, .int (x7_1 + 1))]) 5 [1, 2, 3, 4, 5, 0] (dkX12_cut (i := 92) rfl) rfl rfl (by decide) (by decide) rfl ?_
                                  refine qr_goto (n := 146) (dkX12_cut (i := 93) rfl) (by decide) ?_
                                  exact hself_3 x6_3 (x7_1 + 1)
                                · refine qr_if_ne (t := 173) (n := 166) (dkX12_cut (i := 87) rfl) (by decide) rfl ?_ ?_
                                  · exact hK_10 x6_2
                                  · refine qr_bipush (n := 168) 20 (dkX12_cut (i := 88) rfl) rfl (by decide) ?_
                                    refine qr_iload (n := 170) 5 (dkX12_cut (i := 89) rfl) rfl rfl ?_
                                    refine qr_iadd (n := 171) (dkX12_cut (i := 90) rfl) rfl ?_
                                    refine qr_b (α := Int32) (20 + x7_1) (lvf := fun _ => [(0, .ref (G.2.2.1 0)), (1, .int x1_1), (3, .int x3_3), (4, .long x4_5), (6, .int x6_2), (7, .int x7_1)]) (stf := fun z => .int z :: []) (Sf := fun _ => S_4) (fun x6_4 => ?_)
                                    refine qr_istore (n := 173) (lv2 := [(0, .ref (G.2.2.1 0)), (1, .int x1_1), (3, .int x3_3), (4, .long x4_5), (6, .int x6_4), (7, .int x7_1)]) [1, 2, 3, 4, 0, 5] (dkX12_cut (i := 91) rfl) rfl (by decide) rfl ?_
                                    exact hK_10 x6_4
                        · refine qr_icmp_le (t := 134) (n := 130) (dkX12_cut (i := 68) rfl) (by decide) rfl ?_ ?_
                          · refine qr_iconst (n := 135) 1 (dkX12_cut (i := 71) rfl) rfl (by decide) ?_
                            exact hK_8 1
                          · refine qr_iconst (n := 131) 3 (dkX12_cut (i := 69) rfl) rfl (by decide) ?_
                            refine qr_goto (n := 135) (dkX12_cut (i := 70) rfl) (by decide) ?_
                            exact hK_8 3
                      · refine qr_lp2 (fun (x3_4 : Int32) (x4_6 : Int64) => [(0, .ref (G.2.2.1 0)), (1, .int x1_1), (3, .int x3_4), (4, .long x4_6)]) (fun (x3_4 : Int32) (x4_6 : Int64) => S_4) (fun self_4 hself_4 x3_4 x4_6 => ?_) qv_N 0 0
                        refine qr_aload_n (n := 86) 0 (dkX12_cut (i := 46) rfl) rfl rfl ?_
                        refine qr_iload_n (n := 87) 1 (dkX12_cut (i := 47) rfl) rfl rfl ?_
                        refine qr_iload_n (n := 88) 2 (dkX12_cut (i := 48) rfl) rfl rfl ?_
                        refine qr_iadd (n := 89) (dkX12_cut (i := 49) rfl) rfl ?_
                        refine qr_cvi (n := 92) 0 [.int (x1_1 + x3_4)] (dkX12_cut (i := 50) rfl) rfl kvX12_193 rfl rfl (Nat.le_of_ble_eq_true rfl) rfl rfl lmO rfl (wX12_byteAt G S_4 (x1_1 + x3_4)) (fun r_9 => ?_)
                        refine qr_csi (n := 95) [.int r_9] (dkX12_cut (i := 51) rfl) rfl kvX12_201 rfl rfl (Nat.le_of_ble_eq_true rfl) rfl rfl (wX12_isLetter G S_4 r_9) (fun r_10 => ?_)
                        refine qr_if_eq (t := 124) (n := 98) (dkX12_cut (i := 52) rfl) (by decide) rfl ?_ ?_
                        · exact hK_7 x3_4 x4_6
                        · refine qr_iload_n (n := 99) 2 (dkX12_cut (i := 53) rfl) rfl rfl ?_
                          refine qr_bipush (n := 101) 8 (dkX12_cut (i := 54) rfl) rfl (by decide) ?_
                          refine qr_j (fun K_11 : Int64 → Option qv_St => ∀ (x4_7 : Int64), VV G Lm X RX12 cX12_cut 8 none 3 qe_u 118 [(0, .ref (G.2.2.1 0)), (1, .int x1_1), (3, .int x3_4), (4, .long x4_7)] [] S_4 (K_11 x4_7)) (fun x4_7 => ?_) (fun K_11 hK_11 => ?_)
                          · refine qr_iinc (n := 121) (v := 1) (lv2 := [(0, .ref (G.2.2.1 0)), (1, .int x1_1), (3, .int (x3_4 + 1)), (4, .long x4_7)]) 2 [1, 2, 0, 3] (dkX12_cut (i := 64) rfl) rfl rfl (by decide) (by decide) rfl ?_
                            refine qr_goto (n := 85) (dkX12_cut (i := 65) rfl) (by decide) ?_
                            exact hself_4 (x3_4 + 1) x4_7
                          · refine qr_icmp_ge (t := 118) (n := 104) (dkX12_cut (i := 55) rfl) (by decide) rfl ?_ ?_
                            · exact hK_11 x4_6
                            · refine qr_lload (n := 106) 3 (dkX12_cut (i := 56) rfl) rfl rfl ?_
                              refine qr_aload_n (n := 107) 0 (dkX12_cut (i := 57) rfl) rfl rfl ?_
                              refine qr_iload_n (n := 108) 1 (dkX12_cut (i := 58) rfl) rfl rfl ?_
                              refine qr_iload_n (n := 109) 2 (dkX12_cut (i := 59) rfl) rfl rfl ?_
                              refine qr_iadd (n := 110) (dkX12_cut (i := 60) rfl) rfl ?_
                              refine qr_cvi (n := 113) 0 [.int (x1_1 + x3_4)] (dkX12_cut (i := 61) rfl) rfl kvX12_193 rfl rfl (Nat.le_of_ble_eq_true rfl) rfl rfl lmO rfl (wX12_byteAt G S_4 (x1_1 + x3_4)) (fun r_11 => ?_)
                              refine qr_csl (n := 116) [.long x4_6, .int r_11] (dkX12_cut (i := 62) rfl) rfl kvX12_186 rfl rfl (Nat.le_of_ble_eq_true rfl) rfl rfl (wX12_appends G S_4 x4_6 r_11) (fun r_12 => ?_)
                              refine qr_lstore (n := 118) (lv2 := [(0, .ref (G.2.2.1 0)), (1, .int x1_1), (3, .int x3_4), (4, .long r_12)]) [1, 2, 3, 0] (dkX12_cut (i := 63) rfl) rfl (by decide) rfl ?_
                              exact hK_11 r_12
                  · refine qr_sub [0, 1] rfl ?_
                    exact hK_3
      · refine qr_sub [0] rfl ?_
        exact hK_1 S_4
def tbX12_is : List (Nat × Instr × Nat) := [(0, .aload_n 0, 1), (1, .getfield 212, 3), (4, .ifCond .ne 20, 3), (7, .aload_n 0, 1), (8, .getfield 20, 3), (11, .aload_n 0, 1), (12, .getfield 215, 3), (15, .iaload, 1), (16, .iload_n 1, 1), (17, .if_icmp .ne 7, 3), (20, .iconst 1, 1), (21, .goto 4, 3), (24, .iconst 0, 1), (25, .ireturn, 1)]
set_option maxRecDepth 20000 in
theorem daX12_is : ∀ x ∈ tbX12_is, decode cX12_is x.1 = .ok x.2 := by decide +kernel
theorem dkX12_is {i pc n : Nat} {ins : Instr} (h : tbX12_is[i]? = some (pc, ins, n)) : decode cX12_is pc = .ok (ins, n) := daX12_is (pc, ins, n) (List.mem_of_getElem? h)
def fX12_is (S0 : qv_St) (x1 : Int32) : Option Int32 :=
  qv_j (
    some 0) fun K_1 =>
  if (S0.1 0 13) = 0 then
    qv_ck (S0.1 0 11) 403 <|
    if (S0.1 3 (Int32.toNatClampNeg (S0.1 0 11))) = x1 then
      some 1
    else
      K_1
  else
    K_1
set_option maxRecDepth 20000 in
set_option maxHeartbeats 4000000 in
theorem wX12_is (G : qv_GT) (S0 : qv_St) (x1 : Int32) : ∀ r, fX12_is S0 x1 = some r → Cn G Lm yX12_is cX12_is 2 (some .boolean) 1 [.ref (G.2.2.1 0), .int x1] S0 ((qe_i S0) r) := by
  refine cn_of (own := RX12) (emb := (qe_i S0)) (lv := [(0, .ref (G.2.2.1 0)), (1, .int x1)]) rfl rfl (Nat.le_of_ble_eq_true rfl) rfl (fun X => ?_)
  unfold fX12_is
  refine qr_aload_n (n := 1) 0 (dkX12_is (i := 0) rfl) rfl rfl ?_
  refine qr_geti (n := 4) 0 13 (dkX12_is (i := 1) rfl) rfl lmO rfl gnX12 (Nat.le_of_ble_eq_true rfl) kfX12_212 rfl ?_
  refine qr_j (fun K_1 : Option Int32 => VV G Lm X RX12 cX12_is 2 (some .boolean) 1 (qe_i S0) 24 [] [] S0 (K_1)) (?_) (fun K_1 hK_1 => ?_)
  · refine qr_iconst (n := 25) 0 (dkX12_is (i := 12) rfl) rfl (by decide) ?_
    exact qr_zretc (dkX12_is (i := 13) rfl) rfl rfl rfl
  · refine qr_if_ne (t := 24) (n := 7) (dkX12_is (i := 2) rfl) (by decide) rfl ?_ ?_
    · refine qr_sub [] rfl ?_
      exact hK_1
    · refine qr_aload_n (n := 8) 0 (dkX12_is (i := 3) rfl) rfl rfl ?_
      refine qr_geta (n := 11) 0 5 3 (dkX12_is (i := 4) rfl) rfl lmO rfl gnX12 (Nat.le_of_ble_eq_true rfl) kfX12_20 rfl ?_
      refine qr_aload_n (n := 12) 0 (dkX12_is (i := 5) rfl) rfl rfl ?_
      refine qr_geti (n := 15) 0 11 (dkX12_is (i := 6) rfl) rfl lmO rfl gnX12 (Nat.le_of_ble_eq_true rfl) kfX12_215 rfl ?_
      refine qr_iald (n := 16) 3 403 (dkX12_is (i := 7) rfl) rfl lmA_3 ?_
      refine qr_iload_n (n := 17) 1 (dkX12_is (i := 8) rfl) rfl rfl ?_
      refine qr_icmp_ne (t := 24) (n := 20) (dkX12_is (i := 9) rfl) (by decide) rfl ?_ ?_
      · refine qr_sub [] rfl ?_
        exact hK_1
      · refine qr_iconst (n := 21) 1 (dkX12_is (i := 10) rfl) rfl (by decide) ?_
        refine qr_goto (n := 25) (dkX12_is (i := 11) rfl) (by decide) ?_
        exact qr_zretc (dkX12_is (i := 13) rfl) rfl rfl rfl
def tbX12_fail : List (Nat × Instr × Nat) := [(0, .aload_n 0, 1), (1, .getfield 212, 3), (4, .ifCond .le 4, 3), (7, .return_, 1), (8, .aload_n 0, 1), (9, .iload_n 1, 1), (10, .putfield 212, 3), (13, .aload_n 0, 1), (14, .aload_n 0, 1), (15, .getfield 24, 3), (18, .aload_n 0, 1), (19, .getfield 215, 3), (22, .iaload, 1), (23, .putfield 218, 3), (26, .return_, 1)]
set_option maxRecDepth 20000 in
theorem daX12_fail : ∀ x ∈ tbX12_fail, decode cX12_fail x.1 = .ok x.2 := by decide +kernel
theorem dkX12_fail {i pc n : Nat} {ins : Instr} (h : tbX12_fail[i]? = some (pc, ins, n)) : decode cX12_fail pc = .ok (ins, n) := daX12_fail (pc, ins, n) (List.mem_of_getElem? h)
def fX12_fail (S0 : qv_St) (x1 : Int32) : Option qv_St :=
  if (S0.1 0 13) ≤ 0 then
    qv_b (qv_si S0 0 13 x1) fun S_1 =>
    qv_ck (S_1.1 0 11) 403 <|
    qv_b (qv_si S_1 0 14 (S_1.1 4 (Int32.toNatClampNeg (S_1.1 0 11)))) fun S_2 =>
    some S_2
  else
    some S0
set_option maxRecDepth 20000 in
set_option maxHeartbeats 4000000 in
theorem wX12_fail (G : qv_GT) (S0 : qv_St) (x1 : Int32) : ∀ r, fX12_fail S0 x1 = some r → Cn G Lm yX12_fail cX12_fail 2 none 1 [.ref (G.2.2.1 0), .int x1] S0 (qe_u r) := by
  refine cn_of (own := RX12) (emb := qe_u) (lv := [(0, .ref (G.2.2.1 0)), (1, .int x1)]) rfl rfl (Nat.le_of_ble_eq_true rfl) rfl (fun X => ?_)
  unfold fX12_fail
  refine qr_aload_n (n := 1) 0 (dkX12_fail (i := 0) rfl) rfl rfl ?_
  refine qr_geti (n := 4) 0 13 (dkX12_fail (i := 1) rfl) rfl lmO rfl gnX12 (Nat.le_of_ble_eq_true rfl) kfX12_212 rfl ?_
  refine qr_if_le (t := 8) (n := 7) (dkX12_fail (i := 2) rfl) (by decide) rfl ?_ ?_
  · refine qr_aload_n (n := 9) 0 (dkX12_fail (i := 4) rfl) rfl rfl ?_
    refine qr_iload_n (n := 10) 1 (dkX12_fail (i := 5) rfl) rfl rfl ?_
    refine qr_puti (n := 13) 0 13 (dkX12_fail (i := 6) rfl) rfl lmO rfl gnX12 (Nat.le_of_ble_eq_true rfl) kfX12_212 rfl tyX12_ok nmX12 rfl rfl (fun S_1 => ?_)
    refine qr_aload_n (n := 14) 0 (dkX12_fail (i := 7) rfl) rfl rfl ?_
    refine qr_aload_n (n := 15) 0 (dkX12_fail (i := 8) rfl) rfl rfl ?_
    refine qr_geta (n := 18) 0 6 4 (dkX12_fail (i := 9) rfl) rfl lmO rfl gnX12 (Nat.le_of_ble_eq_true rfl) kfX12_24 rfl ?_
    refine qr_aload_n (n := 19) 0 (dkX12_fail (i := 10) rfl) rfl rfl ?_
    refine qr_geti (n := 22) 0 11 (dkX12_fail (i := 11) rfl) rfl lmO rfl gnX12 (Nat.le_of_ble_eq_true rfl) kfX12_215 rfl ?_
    refine qr_iald (n := 23) 4 403 (dkX12_fail (i := 12) rfl) rfl lmA_4 ?_
    refine qr_puti (n := 26) 0 14 (dkX12_fail (i := 13) rfl) rfl lmO rfl gnX12 (Nat.le_of_ble_eq_true rfl) kfX12_218 rfl tyX12_ok nmX12 rfl rfl (fun S_2 => ?_)
    exact qr_vret (dkX12_fail (i := 14) rfl) rfl rfl
  · exact qr_vret (dkX12_fail (i := 3) rfl) rfl rfl
def tbX12_wrong : List (Nat × Instr × Nat) := [(0, .aload_n 0, 1), (1, .getfield 24, 3), (4, .iload_n 2, 1), (5, .iaload, 1), (6, .istore_n 3, 1), (7, .aload_n 0, 1), (8, .getfield 212, 3), (11, .ifCond .gt 34, 3), (14, .aload_n 0, 1), (15, .getfield 221, 3), (18, .ifCond .eq 28, 3), (21, .iload_n 3, 1), (22, .aload_n 0, 1), (23, .getfield 224, 3), (26, .if_icmp .gt 19, 3), (29, .iload_n 3, 1), (30, .aload_n 0, 1), (31, .getfield 224, 3), (34, .if_icmp .ne 12, 3), (37, .iload_n 1, 1), (38, .aload_n 0, 1), (39, .getfield 221, 3), (42, .if_icmp .lt 4, 3), (45, .return_, 1), (46, .aload_n 0, 1), (47, .iload_n 1, 1), (48, .putfield 221, 3), (51, .aload_n 0, 1), (52, .iload_n 3, 1), (53, .putfield 224, 3), (56, .return_, 1)]
set_option maxRecDepth 20000 in
theorem daX12_wrong : ∀ x ∈ tbX12_wrong, decode cX12_wrong x.1 = .ok x.2 := by decide +kernel
theorem dkX12_wrong {i pc n : Nat} {ins : Instr} (h : tbX12_wrong[i]? = some (pc, ins, n)) : decode cX12_wrong pc = .ok (ins, n) := daX12_wrong (pc, ins, n) (List.mem_of_getElem? h)
def fX12_wrong (S0 : qv_St) (x1 : Int32) (x2 : Int32) : Option qv_St :=
  qv_ck x2 403 <|
  qv_b ((S0.1 4 (Int32.toNatClampNeg x2)) : Int32) fun x3_1 =>
  if 0 < (S0.1 0 13) then
    some S0
  else
    qv_j (
      qv_b (qv_si S0 0 15 x1) fun S_1 =>
      qv_b (qv_si S_1 0 16 x3_1) fun S_2 =>
      some S_2) fun K_1 =>
    if (S0.1 0 15) = 0 then
      K_1
    else
      if (S0.1 0 16) < x3_1 then
        some S0
      else
        if x3_1 = (S0.1 0 16) then
          if x1 < (S0.1 0 15) then
            K_1
          else
            some S0
        else
          K_1
set_option maxRecDepth 20000 in
set_option maxHeartbeats 4000000 in
theorem wX12_wrong (G : qv_GT) (S0 : qv_St) (x1 : Int32) (x2 : Int32) : ∀ r, fX12_wrong S0 x1 x2 = some r → Cn G Lm yX12_wrong cX12_wrong 4 none 1 [.ref (G.2.2.1 0), .int x1, .int x2] S0 (qe_u r) := by
  refine cn_of (own := RX12) (emb := qe_u) (lv := [(0, .ref (G.2.2.1 0)), (1, .int x1), (2, .int x2)]) rfl rfl (Nat.le_of_ble_eq_true rfl) rfl (fun X => ?_)
  unfold fX12_wrong
  refine qr_aload_n (n := 1) 0 (dkX12_wrong (i := 0) rfl) rfl rfl ?_
  refine qr_geta (n := 4) 0 6 4 (dkX12_wrong (i := 1) rfl) rfl lmO rfl gnX12 (Nat.le_of_ble_eq_true rfl) kfX12_24 rfl ?_
  refine qr_iload_n (n := 5) 2 (dkX12_wrong (i := 2) rfl) rfl rfl ?_
  refine qr_iald (n := 6) 4 403 (dkX12_wrong (i := 3) rfl) rfl lmA_4 ?_
  refine qr_b (α := Int32) (S0.1 4 (Int32.toNatClampNeg x2)) (lvf := fun _ => [(0, .ref (G.2.2.1 0)), (1, .int x1), (2, .int x2)]) (stf := fun z => .int z :: []) (Sf := fun _ => S0) (fun x3_1 => ?_)
  refine qr_istore_n (n := 7) (lv2 := [(0, .ref (G.2.2.1 0)), (1, .int x1), (2, .int x2), (3, .int x3_1)]) [1, 2, 3, 0] (dkX12_wrong (i := 4) rfl) rfl rfl (by decide) rfl ?_
  refine qr_aload_n (n := 8) 0 (dkX12_wrong (i := 5) rfl) rfl rfl ?_
  refine qr_geti (n := 11) 0 13 (dkX12_wrong (i := 6) rfl) rfl lmO rfl gnX12 (Nat.le_of_ble_eq_true rfl) kfX12_212 rfl ?_
  refine qr_if_gt (t := 45) (n := 14) (dkX12_wrong (i := 7) rfl) (by decide) rfl ?_ ?_
  · exact qr_vret (dkX12_wrong (i := 23) rfl) rfl rfl
  · refine qr_aload_n (n := 15) 0 (dkX12_wrong (i := 8) rfl) rfl rfl ?_
    refine qr_geti (n := 18) 0 15 (dkX12_wrong (i := 9) rfl) rfl lmO rfl gnX12 (Nat.le_of_ble_eq_true rfl) kfX12_221 rfl ?_
    refine qr_j (fun K_1 : Option qv_St => VV G Lm X RX12 cX12_wrong 4 none 1 qe_u 46 [(0, .ref (G.2.2.1 0)), (1, .int x1), (3, .int x3_1)] [] S0 (K_1)) (?_) (fun K_1 hK_1 => ?_)
    · refine qr_aload_n (n := 47) 0 (dkX12_wrong (i := 24) rfl) rfl rfl ?_
      refine qr_iload_n (n := 48) 1 (dkX12_wrong (i := 25) rfl) rfl rfl ?_
      refine qr_puti (n := 51) 0 15 (dkX12_wrong (i := 26) rfl) rfl lmO rfl gnX12 (Nat.le_of_ble_eq_true rfl) kfX12_221 rfl tyX12_ok nmX12 rfl rfl (fun S_1 => ?_)
      refine qr_aload_n (n := 52) 0 (dkX12_wrong (i := 27) rfl) rfl rfl ?_
      refine qr_iload_n (n := 53) 2 (dkX12_wrong (i := 28) rfl) rfl rfl ?_
      refine qr_puti (n := 56) 0 16 (dkX12_wrong (i := 29) rfl) rfl lmO rfl gnX12 (Nat.le_of_ble_eq_true rfl) kfX12_224 rfl tyX12_ok nmX12 rfl rfl (fun S_2 => ?_)
      exact qr_vret (dkX12_wrong (i := 30) rfl) rfl rfl
    · refine qr_if_eq (t := 46) (n := 21) (dkX12_wrong (i := 10) rfl) (by decide) rfl ?_ ?_
      · refine qr_sub [0, 1, 3] rfl ?_
        exact hK_1
      · refine qr_iload_n (n := 22) 3 (dkX12_wrong (i := 11) rfl) rfl rfl ?_
        refine qr_aload_n (n := 23) 0 (dkX12_wrong (i := 12) rfl) rfl rfl ?_
        refine qr_geti (n := 26) 0 16 (dkX12_wrong (i := 13) rfl) rfl lmO rfl gnX12 (Nat.le_of_ble_eq_true rfl) kfX12_224 rfl ?_
        refine qr_icmp_gt (t := 45) (n := 29) (dkX12_wrong (i := 14) rfl) (by decide) rfl ?_ ?_
        · exact qr_vret (dkX12_wrong (i := 23) rfl) rfl rfl
        · refine qr_iload_n (n := 30) 3 (dkX12_wrong (i := 15) rfl) rfl rfl ?_
          refine qr_aload_n (n := 31) 0 (dkX12_wrong (i := 16) rfl) rfl rfl ?_
          refine qr_geti (n := 34) 0 16 (dkX12_wrong (i := 17) rfl) rfl lmO rfl gnX12 (Nat.le_of_ble_eq_true rfl) kfX12_224 rfl ?_
          refine qr_icmp_ne (t := 46) (n := 37) (dkX12_wrong (i := 18) rfl) (by decide) rfl ?_ ?_
          · refine qr_sub [0, 1, 3] rfl ?_
            exact hK_1
          · refine qr_iload_n (n := 38) 1 (dkX12_wrong (i := 19) rfl) rfl rfl ?_
            refine qr_aload_n (n := 39) 0 (dkX12_wrong (i := 20) rfl) rfl rfl ?_
            refine qr_geti (n := 42) 0 15 (dkX12_wrong (i := 21) rfl) rfl lmO rfl gnX12 (Nat.le_of_ble_eq_true rfl) kfX12_221 rfl ?_
            refine qr_icmp_lt (t := 46) (n := 45) (dkX12_wrong (i := 22) rfl) (by decide) rfl ?_ ?_
            · refine qr_sub [0, 1, 3] rfl ?_
              exact hK_1
            · exact qr_vret (dkX12_wrong (i := 23) rfl) rfl rfl
def tbX12_goesOn : List (Nat × Instr × Nat) := [(0, .aload_n 0, 1), (1, .getfield 215, 3), (4, .sipush 400, 3), (7, .if_icmp .ne 11, 3), (10, .aload_n 0, 1), (11, .iconst 2, 1), (12, .invokevirtual 227, 3), (15, .goto 13, 3), (18, .aload_n 0, 1), (19, .dup, 1), (20, .getfield 215, 3), (23, .iconst 1, 1), (24, .iadd, 1), (25, .putfield 215, 3), (28, .return_, 1)]
set_option maxRecDepth 20000 in
theorem daX12_goesOn : ∀ x ∈ tbX12_goesOn, decode cX12_goesOn x.1 = .ok x.2 := by decide +kernel
theorem dkX12_goesOn {i pc n : Nat} {ins : Instr} (h : tbX12_goesOn[i]? = some (pc, ins, n)) : decode cX12_goesOn pc = .ok (ins, n) := daX12_goesOn (pc, ins, n) (List.mem_of_getElem? h)
def fX12_goesOn (S0 : qv_St) : Option qv_St :=
  if (S0.1 0 11) = 400 then
    (fX12_fail S0 2).bind fun S_2 =>
    some S_2
  else
    qv_b (qv_si S0 0 11 ((S0.1 0 11) + 1)) fun S_1 =>
    some S_1
set_option maxRecDepth 20000 in
set_option maxHeartbeats 4000000 in
theorem wX12_goesOn (G : qv_GT) (S0 : qv_St) : ∀ r, fX12_goesOn S0 = some r → Cn G Lm yX12_goesOn cX12_goesOn 1 none 2 [.ref (G.2.2.1 0)] S0 (qe_u r) := by
  refine cn_of (own := RX12) (emb := qe_u) (lv := [(0, .ref (G.2.2.1 0))]) rfl rfl (Nat.le_of_ble_eq_true rfl) rfl (fun X => ?_)
  unfold fX12_goesOn
  refine qr_aload_n (n := 1) 0 (dkX12_goesOn (i := 0) rfl) rfl rfl ?_
  refine qr_geti (n := 4) 0 11 (dkX12_goesOn (i := 1) rfl) rfl lmO rfl gnX12 (Nat.le_of_ble_eq_true rfl) kfX12_215 rfl ?_
  refine qr_sipush (n := 7) 400 (dkX12_goesOn (i := 2) rfl) rfl (by decide) ?_
  refine qr_icmp_ne (t := 18) (n := 10) (dkX12_goesOn (i := 3) rfl) (by decide) rfl ?_ ?_
  · refine qr_aload_n (n := 19) 0 (dkX12_goesOn (i := 8) rfl) rfl rfl ?_
    refine qr_dup (n := 20) (dkX12_goesOn (i := 9) rfl) rfl rfl ?_
    refine qr_geti (n := 23) 0 11 (dkX12_goesOn (i := 10) rfl) rfl lmO rfl gnX12 (Nat.le_of_ble_eq_true rfl) kfX12_215 rfl ?_
    refine qr_iconst (n := 24) 1 (dkX12_goesOn (i := 11) rfl) rfl (by decide) ?_
    refine qr_iadd (n := 25) (dkX12_goesOn (i := 12) rfl) rfl ?_
    refine qr_puti (n := 28) 0 11 (dkX12_goesOn (i := 13) rfl) rfl lmO rfl gnX12 (Nat.le_of_ble_eq_true rfl) kfX12_215 rfl tyX12_ok nmX12 rfl rfl (fun S_1 => ?_)
    exact qr_vret (dkX12_goesOn (i := 14) rfl) rfl rfl
  · refine qr_aload_n (n := 11) 0 (dkX12_goesOn (i := 4) rfl) rfl rfl ?_
    refine qr_iconst (n := 12) 2 (dkX12_goesOn (i := 5) rfl) rfl (by decide) ?_
    refine qr_cvu (n := 15) 0 [.int 2] (dkX12_goesOn (i := 6) rfl) rfl kvX12_227 rfl rfl (Nat.le_of_ble_eq_true rfl) rfl rfl lmO rfl (wX12_fail G S0 2) (fun S_2 => ?_)
    refine qr_goto (n := 28) (dkX12_goesOn (i := 7) rfl) (by decide) ?_
    exact qr_vret (dkX12_goesOn (i := 14) rfl) rfl rfl
def tbX12_must : List (Nat × Instr × Nat) := [(0, .aload_n 0, 1), (1, .iload_n 1, 1), (2, .invokevirtual 230, 3), (5, .ifCond .eq 10, 3), (8, .aload_n 0, 1), (9, .invokevirtual 233, 3), (12, .goto 8, 3), (15, .aload_n 0, 1), (16, .iconst 1, 1), (17, .invokevirtual 227, 3), (20, .return_, 1)]
set_option maxRecDepth 20000 in
theorem daX12_must : ∀ x ∈ tbX12_must, decode cX12_must x.1 = .ok x.2 := by decide +kernel
theorem dkX12_must {i pc n : Nat} {ins : Instr} (h : tbX12_must[i]? = some (pc, ins, n)) : decode cX12_must pc = .ok (ins, n) := daX12_must (pc, ins, n) (List.mem_of_getElem? h)
def fX12_must (S0 : qv_St) (x1 : Int32) : Option qv_St :=
  (fX12_is S0 x1).bind fun r_1 =>
  if r_1 = 0 then
    (fX12_fail S0 1).bind fun S_1 =>
    some S_1
  else
    (fX12_goesOn S0).bind fun S_2 =>
    some S_2
set_option maxRecDepth 20000 in
set_option maxHeartbeats 4000000 in
theorem wX12_must (G : qv_GT) (S0 : qv_St) (x1 : Int32) : ∀ r, fX12_must S0 x1 = some r → Cn G Lm yX12_must cX12_must 2 none 3 [.ref (G.2.2.1 0), .int x1] S0 (qe_u r) := by
  refine cn_of (own := RX12) (emb := qe_u) (lv := [(0, .ref (G.2.2.1 0)), (1, .int x1)]) rfl rfl (Nat.le_of_ble_eq_true rfl) rfl (fun X => ?_)
  unfold fX12_must
  refine qr_aload_n (n := 1) 0 (dkX12_must (i := 0) rfl) rfl rfl ?_
  refine qr_iload_n (n := 2) 1 (dkX12_must (i := 1) rfl) rfl rfl ?_
  refine qr_cvi (n := 5) 0 [.int x1] (dkX12_must (i := 2) rfl) rfl kvX12_230 rfl rfl (Nat.le_of_ble_eq_true rfl) rfl rfl lmO rfl (wX12_is G S0 x1) (fun r_1 => ?_)
  refine qr_if_eq (t := 15) (n := 8) (dkX12_must (i := 3) rfl) (by decide) rfl ?_ ?_
  · refine qr_aload_n (n := 16) 0 (dkX12_must (i := 7) rfl) rfl rfl ?_
    refine qr_iconst (n := 17) 1 (dkX12_must (i := 8) rfl) rfl (by decide) ?_
    refine qr_cvu (n := 20) 0 [.int 1] (dkX12_must (i := 9) rfl) rfl kvX12_227 rfl rfl (Nat.le_of_ble_eq_true rfl) rfl rfl lmO rfl (wX12_fail G S0 1) (fun S_1 => ?_)
    exact qr_vret (dkX12_must (i := 10) rfl) rfl rfl
  · refine qr_aload_n (n := 9) 0 (dkX12_must (i := 4) rfl) rfl rfl ?_
    refine qr_cvu (n := 12) 0 [] (dkX12_must (i := 5) rfl) rfl kvX12_233 rfl rfl (Nat.le_of_ble_eq_true rfl) rfl rfl lmO rfl (wX12_goesOn G S0) (fun S_2 => ?_)
    refine qr_goto (n := 20) (dkX12_must (i := 6) rfl) (by decide) ?_
    exact qr_vret (dkX12_must (i := 10) rfl) rfl rfl
def tbX12_plain : List (Nat × Instr × Nat) := [(0, .aload_n 0, 1), (1, .getfield 43, 3), (4, .iload_n 1, 1), (5, .iconst 0, 1), (6, .iastore, 1), (7, .aload_n 0, 1), (8, .getfield 65, 3), (11, .iload_n 1, 1), (12, .iconst 0, 1), (13, .iastore, 1), (14, .aload_n 0, 1), (15, .getfield 71, 3), (18, .iload_n 1, 1), (19, .iconst 0, 1), (20, .iastore, 1), (21, .aload_n 0, 1), (22, .getfield 80, 3), (25, .iload_n 1, 1), (26, .iconst 5, 1), (27, .iastore, 1), (28, .aload_n 0, 1), (29, .getfield 83, 3), (32, .iload_n 1, 1), (33, .bipush 50, 2), (35, .iastore, 1), (36, .aload_n 0, 1), (37, .getfield 86, 3), (40, .iload_n 1, 1), (41, .iconst 0, 1), (42, .iastore, 1), (43, .iconst 0, 1), (44, .istore_n 2, 1), (45, .iload_n 2, 1), (46, .iconst 3, 1), (47, .if_icmp .ge 31, 3), (50, .aload_n 0, 1), (51, .getfield 89, 3), (54, .iconst 3, 1), (55, .iload_n 1, 1), (56, .imul, 1), (57, .iload_n 2, 1), (58, .iadd, 1), (59, .iconst 0, 1), (60, .iastore, 1), (61, .aload_n 0, 1), (62, .getfield 92, 3), (65, .iconst 3, 1), (66, .iload_n 1, 1), (67, .imul, 1), (68, .iload_n 2, 1), (69, .iadd, 1), (70, .iconst 0, 1), (71, .iastore, 1), (72, .iinc 2 1, 3), (75, .goto (-30), 3), (78, .return_, 1)]
set_option maxRecDepth 20000 in
theorem daX12_plain : ∀ x ∈ tbX12_plain, decode cX12_plain x.1 = .ok x.2 := by decide +kernel
theorem dkX12_plain {i pc n : Nat} {ins : Instr} (h : tbX12_plain[i]? = some (pc, ins, n)) : decode cX12_plain pc = .ok (ins, n) := daX12_plain (pc, ins, n) (List.mem_of_getElem? h)
def fX12_plain (S0 : qv_St) (x1 : Int32) : Option qv_St :=
  qv_ck x1 2 <| qv_b (qv_si S0 9 (Int32.toNatClampNeg x1) 0) fun S_1 =>
  qv_ck x1 2 <| qv_b (qv_si S_1 16 (Int32.toNatClampNeg x1) 0) fun S_2 =>
  qv_ck x1 2 <| qv_b (qv_si S_2 18 (Int32.toNatClampNeg x1) 0) fun S_3 =>
  qv_ck x1 2 <| qv_b (qv_si S_3 21 (Int32.toNatClampNeg x1) 5) fun S_4 =>
  qv_ck x1 2 <| qv_b (qv_si S_4 22 (Int32.toNatClampNeg x1) 50) fun S_5 =>
  qv_ck x1 2 <| qv_b (qv_si S_5 23 (Int32.toNatClampNeg x1) 0) fun S_6 =>
  qv_lp2 qv_N (fun self_1 (S_7 : qv_St) (x2_1 : Int32) =>
    if 3 ≤ x2_1 then
      some S_7
    else
      qv_ck ((3 * x1) + x2_1) 6 <| qv_b (qv_si S_7 24 (Int32.toNatClampNeg ((3 * x1) + x2_1)) 0) fun S_8 =>
      qv_ck ((3 * x1) + x2_1) 6 <| qv_b (qv_si S_8 25 (Int32.toNatClampNeg ((3 * x1) + x2_1)) 0) fun S_9 =>
      self_1 S_9 (x2_1 + 1)) S_6 0
set_option maxRecDepth 20000 in
set_option maxHeartbeats 4000000 in
theorem wX12_plain (G : qv_GT) (S0 : qv_St) (x1 : Int32) : ∀ r, fX12_plain S0 x1 = some r → Cn G Lm yX12_plain cX12_plain 3 none 1 [.ref (G.2.2.1 0), .int x1] S0 (qe_u r) := by
  refine cn_of (own := RX12) (emb := qe_u) (lv := [(0, .ref (G.2.2.1 0)), (1, .int x1)]) rfl rfl (Nat.le_of_ble_eq_true rfl) rfl (fun X => ?_)
  unfold fX12_plain
  refine qr_aload_n (n := 1) 0 (dkX12_plain (i := 0) rfl) rfl rfl ?_
  refine qr_geta (n := 4) 0 22 9 (dkX12_plain (i := 1) rfl) rfl lmO rfl gnX12 (Nat.le_of_ble_eq_true rfl) kfX12_43 rfl ?_
  refine qr_iload_n (n := 5) 1 (dkX12_plain (i := 2) rfl) rfl rfl ?_
  refine qr_iconst (n := 6) 0 (dkX12_plain (i := 3) rfl) rfl (by decide) ?_
  refine qr_iast (n := 7) 9 2 (dkX12_plain (i := 4) rfl) rfl lmA_9 (fun S_1 => ?_)
  refine qr_aload_n (n := 8) 0 (dkX12_plain (i := 5) rfl) rfl rfl ?_
  refine qr_geta (n := 11) 0 29 16 (dkX12_plain (i := 6) rfl) rfl lmO rfl gnX12 (Nat.le_of_ble_eq_true rfl) kfX12_65 rfl ?_
  refine qr_iload_n (n := 12) 1 (dkX12_plain (i := 7) rfl) rfl rfl ?_
  refine qr_iconst (n := 13) 0 (dkX12_plain (i := 8) rfl) rfl (by decide) ?_
  refine qr_iast (n := 14) 16 2 (dkX12_plain (i := 9) rfl) rfl lmA_16 (fun S_2 => ?_)
  refine qr_aload_n (n := 15) 0 (dkX12_plain (i := 10) rfl) rfl rfl ?_
  refine qr_geta (n := 18) 0 31 18 (dkX12_plain (i := 11) rfl) rfl lmO rfl gnX12 (Nat.le_of_ble_eq_true rfl) kfX12_71 rfl ?_
  refine qr_iload_n (n := 19) 1 (dkX12_plain (i := 12) rfl) rfl rfl ?_
  refine qr_iconst (n := 20) 0 (dkX12_plain (i := 13) rfl) rfl (by decide) ?_
  refine qr_iast (n := 21) 18 2 (dkX12_plain (i := 14) rfl) rfl lmA_18 (fun S_3 => ?_)
  refine qr_aload_n (n := 22) 0 (dkX12_plain (i := 15) rfl) rfl rfl ?_
  refine qr_geta (n := 25) 0 34 21 (dkX12_plain (i := 16) rfl) rfl lmO rfl gnX12 (Nat.le_of_ble_eq_true rfl) kfX12_80 rfl ?_
  refine qr_iload_n (n := 26) 1 (dkX12_plain (i := 17) rfl) rfl rfl ?_
  refine qr_iconst (n := 27) 5 (dkX12_plain (i := 18) rfl) rfl (by decide) ?_
  refine qr_iast (n := 28) 21 2 (dkX12_plain (i := 19) rfl) rfl lmA_21 (fun S_4 => ?_)
  refine qr_aload_n (n := 29) 0 (dkX12_plain (i := 20) rfl) rfl rfl ?_
  refine qr_geta (n := 32) 0 35 22 (dkX12_plain (i := 21) rfl) rfl lmO rfl gnX12 (Nat.le_of_ble_eq_true rfl) kfX12_83 rfl ?_
  refine qr_iload_n (n := 33) 1 (dkX12_plain (i := 22) rfl) rfl rfl ?_
  refine qr_bipush (n := 35) 50 (dkX12_plain (i := 23) rfl) rfl (by decide) ?_
  refine qr_iast (n := 36) 22 2 (dkX12_plain (i := 24) rfl) rfl lmA_22 (fun S_5 => ?_)
  refine qr_aload_n (n := 37) 0 (dkX12_plain (i := 25) rfl) rfl rfl ?_
  refine qr_geta (n := 40) 0 36 23 (dkX12_plain (i := 26) rfl) rfl lmO rfl gnX12 (Nat.le_of_ble_eq_true rfl) kfX12_86 rfl ?_
  refine qr_iload_n (n := 41) 1 (dkX12_plain (i := 27) rfl) rfl rfl ?_
  refine qr_iconst (n := 42) 0 (dkX12_plain (i := 28) rfl) rfl (by decide) ?_
  refine qr_iast (n := 43) 23 2 (dkX12_plain (i := 29) rfl) rfl lmA_23 (fun S_6 => ?_)
  refine qr_iconst (n := 44) 0 (dkX12_plain (i := 30) rfl) rfl (by decide) ?_
  refine qr_istore_n (n := 45) (lv2 := [(0, .ref (G.2.2.1 0)), (1, .int x1), (2, .int 0)]) [1, 2, 0] (dkX12_plain (i := 31) rfl) rfl rfl (by decide) rfl ?_
  refine qr_lp2 (fun (S_7 : qv_St) (x2_1 : Int32) => [(0, .ref (G.2.2.1 0)), (1, .int x1), (2, .int x2_1)]) (fun (S_7 : qv_St) (x2_1 : Int32) => S_7) (fun self_1 hself_1 S_7 x2_1 => ?_) qv_N S_6 0
  refine qr_iload_n (n := 46) 2 (dkX12_plain (i := 32) rfl) rfl rfl ?_
  refine qr_iconst (n := 47) 3 (dkX12_plain (i := 33) rfl) rfl (by decide) ?_
  refine qr_icmp_ge (t := 78) (n := 50) (dkX12_plain (i := 34) rfl) (by decide) rfl ?_ ?_
  · exact qr_vret (dkX12_plain (i := 55) rfl) rfl rfl
  · refine qr_aload_n (n := 51) 0 (dkX12_plain (i := 35) rfl) rfl rfl ?_
    refine qr_geta (n := 54) 0 37 24 (dkX12_plain (i := 36) rfl) rfl lmO rfl gnX12 (Nat.le_of_ble_eq_true rfl) kfX12_89 rfl ?_
    refine qr_iconst (n := 55) 3 (dkX12_plain (i := 37) rfl) rfl (by decide) ?_
    refine qr_iload_n (n := 56) 1 (dkX12_plain (i := 38) rfl) rfl rfl ?_
    refine qr_imul (n := 57) (dkX12_plain (i := 39) rfl) rfl ?_
    refine qr_iload_n (n := 58) 2 (dkX12_plain (i := 40) rfl) rfl rfl ?_
    refine qr_iadd (n := 59) (dkX12_plain (i := 41) rfl) rfl ?_
    refine qr_iconst (n := 60) 0 (dkX12_plain (i := 42) rfl) rfl (by decide) ?_
    refine qr_iast (n := 61) 24 6 (dkX12_plain (i := 43) rfl) rfl lmA_24 (fun S_8 => ?_)
    refine qr_aload_n (n := 62) 0 (dkX12_plain (i := 44) rfl) rfl rfl ?_
    refine qr_geta (n := 65) 0 38 25 (dkX12_plain (i := 45) rfl) rfl lmO rfl gnX12 (Nat.le_of_ble_eq_true rfl) kfX12_92 rfl ?_
    refine qr_iconst (n := 66) 3 (dkX12_plain (i := 46) rfl) rfl (by decide) ?_
    refine qr_iload_n (n := 67) 1 (dkX12_plain (i := 47) rfl) rfl rfl ?_
    refine qr_imul (n := 68) (dkX12_plain (i := 48) rfl) rfl ?_
    refine qr_iload_n (n := 69) 2 (dkX12_plain (i := 49) rfl) rfl rfl ?_
    refine qr_iadd (n := 70) (dkX12_plain (i := 50) rfl) rfl ?_
    refine qr_iconst (n := 71) 0 (dkX12_plain (i := 51) rfl) rfl (by decide) ?_
    refine qr_iast (n := 72) 25 6 (dkX12_plain (i := 52) rfl) rfl lmA_25 (fun S_9 => ?_)
    refine qr_iinc (n := 75) (v := 1) (lv2 := [(0, .ref (G.2.2.1 0)), (1, .int x1), (2, .int (x2_1 + 1))]) 2 [1, 2, 0] (dkX12_plain (i := 53) rfl) rfl rfl (by decide) (by decide) rfl ?_
    refine qr_goto (n := 45) (dkX12_plain (i := 54) rfl) (by decide) ?_
    exact hself_1 S_9 (x2_1 + 1)
def tbX12_roomFor : List (Nat × Instr × Nat) := [(0, .iload_n 1, 1), (1, .iload_n 2, 1), (2, .if_icmp .ne 8, 3), (5, .aload_n 0, 1), (6, .iconst 2, 1), (7, .invokevirtual 227, 3), (10, .aload_n 0, 1), (11, .getfield 212, 3), (14, .ifCond .ne 7, 3), (17, .aload_n 0, 1), (18, .invokevirtual 233, 3), (21, .return_, 1)]
set_option maxRecDepth 20000 in
theorem daX12_roomFor : ∀ x ∈ tbX12_roomFor, decode cX12_roomFor x.1 = .ok x.2 := by decide +kernel
theorem dkX12_roomFor {i pc n : Nat} {ins : Instr} (h : tbX12_roomFor[i]? = some (pc, ins, n)) : decode cX12_roomFor pc = .ok (ins, n) := daX12_roomFor (pc, ins, n) (List.mem_of_getElem? h)
def fX12_roomFor (S0 : qv_St) (x1 : Int32) (x2 : Int32) : Option qv_St :=
  qv_j (fun (S_1 : qv_St) =>
    if (S_1.1 0 13) = 0 then
      (fX12_goesOn S_1).bind fun S_2 =>
      some S_2
    else
      some S_1) fun K_1 =>
  if x1 = x2 then
    (fX12_fail S0 2).bind fun S_3 =>
    K_1 S_3
  else
    K_1 S0
set_option maxRecDepth 20000 in
set_option maxHeartbeats 4000000 in
theorem wX12_roomFor (G : qv_GT) (S0 : qv_St) (x1 : Int32) (x2 : Int32) : ∀ r, fX12_roomFor S0 x1 x2 = some r → Cn G Lm yX12_roomFor cX12_roomFor 3 none 3 [.ref (G.2.2.1 0), .int x1, .int x2] S0 (qe_u r) := by
  refine cn_of (own := RX12) (emb := qe_u) (lv := [(0, .ref (G.2.2.1 0)), (1, .int x1), (2, .int x2)]) rfl rfl (Nat.le_of_ble_eq_true rfl) rfl (fun X => ?_)
  unfold fX12_roomFor
  refine qr_iload_n (n := 1) 1 (dkX12_roomFor (i := 0) rfl) rfl rfl ?_
  refine qr_iload_n (n := 2) 2 (dkX12_roomFor (i := 1) rfl) rfl rfl ?_
  refine qr_j (fun K_1 : qv_St → Option qv_St => ∀ (S_1 : qv_St), VV G Lm X RX12 cX12_roomFor 3 none 3 qe_u 10 [(0, .ref (G.2.2.1 0))] [] S_1 (K_1 S_1)) (fun S_1 => ?_) (fun K_1 hK_1 => ?_)
  · refine qr_aload_n (n := 11) 0 (dkX12_roomFor (i := 6) rfl) rfl rfl ?_
    refine qr_geti (n := 14) 0 13 (dkX12_roomFor (i := 7) rfl) rfl lmO rfl gnX12 (Nat.le_of_ble_eq_true rfl) kfX12_212 rfl ?_
    refine qr_if_ne (t := 21) (n := 17) (dkX12_roomFor (i := 8) rfl) (by decide) rfl ?_ ?_
    · exact qr_vret (dkX12_roomFor (i := 11) rfl) rfl rfl
    · refine qr_aload_n (n := 18) 0 (dkX12_roomFor (i := 9) rfl) rfl rfl ?_
      refine qr_cvu (n := 21) 0 [] (dkX12_roomFor (i := 10) rfl) rfl kvX12_233 rfl rfl (Nat.le_of_ble_eq_true rfl) rfl rfl lmO rfl (wX12_goesOn G S_1) (fun S_2 => ?_)
      exact qr_vret (dkX12_roomFor (i := 11) rfl) rfl rfl
  · refine qr_icmp_ne (t := 10) (n := 5) (dkX12_roomFor (i := 2) rfl) (by decide) rfl ?_ ?_
    · refine qr_sub [0] rfl ?_
      exact hK_1 S0
    · refine qr_aload_n (n := 6) 0 (dkX12_roomFor (i := 3) rfl) rfl rfl ?_
      refine qr_iconst (n := 7) 2 (dkX12_roomFor (i := 4) rfl) rfl (by decide) ?_
      refine qr_cvu (n := 10) 0 [.int 2] (dkX12_roomFor (i := 5) rfl) rfl kvX12_227 rfl rfl (Nat.le_of_ble_eq_true rfl) rfl rfl lmO rfl (wX12_fail G S0 2) (fun S_3 => ?_)
      refine qr_sub [0] rfl ?_
      exact hK_1 S_3
def tbX12_named : List (Nat × Instr × Nat) := [(0, .aload_n 0, 1), (1, .getfield 215, 3), (4, .istore_n 1, 1), (5, .aload_n 0, 1), (6, .iconst 1, 1), (7, .invokevirtual 288, 3), (10, .iconst 0, 1), (11, .istore_n 2, 1), (12, .iload_n 2, 1), (13, .aload_n 0, 1), (14, .getfield 248, 3), (17, .if_icmp .ge 38, 3), (20, .aload_n 0, 1), (21, .getfield 212, 3), (24, .ifCond .ne 31, 3), (27, .aload_n 0, 1), (28, .getfield 40, 3), (31, .iload_n 2, 1), (32, .laload, 1), (33, .aload_n 0, 1), (34, .getfield 30, 3), (37, .iload_n 1, 1), (38, .laload, 1), (39, .lcmp, 1), (40, .ifCond .ne 9, 3), (43, .aload_n 0, 1), (44, .iconst 3, 1), (45, .iload_n 1, 1), (46, .invokevirtual 294, 3), (49, .iinc 2 1, 3), (52, .goto (-40), 3), (55, .iload_n 1, 1), (56, .ireturn, 1)]
set_option maxRecDepth 20000 in
theorem daX12_named : ∀ x ∈ tbX12_named, decode cX12_named x.1 = .ok x.2 := by decide +kernel
theorem dkX12_named {i pc n : Nat} {ins : Instr} (h : tbX12_named[i]? = some (pc, ins, n)) : decode cX12_named pc = .ok (ins, n) := daX12_named (pc, ins, n) (List.mem_of_getElem? h)
def fX12_named (S0 : qv_St) : Option (qv_St × Int32) :=
  qv_b ((S0.1 0 11) : Int32) fun x1_1 =>
  (fX12_must S0 1).bind fun S_1 =>
  qv_lp2 qv_N (fun self_1 (S_2 : qv_St) (x2_1 : Int32) =>
    if (S_2.1 0 20) ≤ x2_1 then
      some (S_2, x1_1)
    else
      if (S_2.1 0 13) = 0 then
        qv_ck x2_1 18 <|
        qv_ck x1_1 403 <|
        qv_j (fun (S_3 : qv_St) =>
          self_1 S_3 (x2_1 + 1)) fun K_1 =>
        if (lg_cmp (S_2.2 8 (Int32.toNatClampNeg x2_1)) (S_2.2 6 (Int32.toNatClampNeg x1_1))) = 0 then
          (fX12_wrong S_2 3 x1_1).bind fun S_4 =>
          K_1 S_4
        else
          K_1 S_2
      else
        some (S_2, x1_1)) S_1 0
set_option maxRecDepth 20000 in
set_option maxHeartbeats 4000000 in
theorem wX12_named (G : qv_GT) (S0 : qv_St) : ∀ r, fX12_named S0 = some r → Cn G Lm yX12_named cX12_named 3 (some .int) 4 [.ref (G.2.2.1 0)] S0 (qe_m r) := by
  refine cn_of (own := RX12) (emb := qe_m) (lv := [(0, .ref (G.2.2.1 0))]) rfl rfl (Nat.le_of_ble_eq_true rfl) rfl (fun X => ?_)
  unfold fX12_named
  refine qr_aload_n (n := 1) 0 (dkX12_named (i := 0) rfl) rfl rfl ?_
  refine qr_geti (n := 4) 0 11 (dkX12_named (i := 1) rfl) rfl lmO rfl gnX12 (Nat.le_of_ble_eq_true rfl) kfX12_215 rfl ?_
  refine qr_b (α := Int32) (S0.1 0 11) (lvf := fun _ => [(0, .ref (G.2.2.1 0))]) (stf := fun z => .int z :: []) (Sf := fun _ => S0) (fun x1_1 => ?_)
  refine qr_istore_n (n := 5) (lv2 := [(0, .ref (G.2.2.1 0)), (1, .int x1_1)]) [1, 0] (dkX12_named (i := 2) rfl) rfl rfl (by decide) rfl ?_
  refine qr_aload_n (n := 6) 0 (dkX12_named (i := 3) rfl) rfl rfl ?_
  refine qr_iconst (n := 7) 1 (dkX12_named (i := 4) rfl) rfl (by decide) ?_
  refine qr_cvu (n := 10) 0 [.int 1] (dkX12_named (i := 5) rfl) rfl kvX12_288 rfl rfl (Nat.le_of_ble_eq_true rfl) rfl rfl lmO rfl (wX12_must G S0 1) (fun S_1 => ?_)
  refine qr_iconst (n := 11) 0 (dkX12_named (i := 6) rfl) rfl (by decide) ?_
  refine qr_istore_n (n := 12) (lv2 := [(0, .ref (G.2.2.1 0)), (1, .int x1_1), (2, .int 0)]) [1, 2, 0] (dkX12_named (i := 7) rfl) rfl rfl (by decide) rfl ?_
  refine qr_lp2 (fun (S_2 : qv_St) (x2_1 : Int32) => [(0, .ref (G.2.2.1 0)), (1, .int x1_1), (2, .int x2_1)]) (fun (S_2 : qv_St) (x2_1 : Int32) => S_2) (fun self_1 hself_1 S_2 x2_1 => ?_) qv_N S_1 0
  refine qr_iload_n (n := 13) 2 (dkX12_named (i := 8) rfl) rfl rfl ?_
  refine qr_aload_n (n := 14) 0 (dkX12_named (i := 9) rfl) rfl rfl ?_
  refine qr_geti (n := 17) 0 20 (dkX12_named (i := 10) rfl) rfl lmO rfl gnX12 (Nat.le_of_ble_eq_true rfl) kfX12_248 rfl ?_
  refine qr_icmp_ge (t := 55) (n := 20) (dkX12_named (i := 11) rfl) (by decide) rfl ?_ ?_
  · refine qr_iload_n (n := 56) 1 (dkX12_named (i := 31) rfl) rfl rfl ?_
    exact qr_iret (dkX12_named (i := 32) rfl) rfl rfl
  · refine qr_aload_n (n := 21) 0 (dkX12_named (i := 12) rfl) rfl rfl ?_
    refine qr_geti (n := 24) 0 13 (dkX12_named (i := 13) rfl) rfl lmO rfl gnX12 (Nat.le_of_ble_eq_true rfl) kfX12_212 rfl ?_
    refine qr_if_ne (t := 55) (n := 27) (dkX12_named (i := 14) rfl) (by decide) rfl ?_ ?_
    · refine qr_iload_n (n := 56) 1 (dkX12_named (i := 31) rfl) rfl rfl ?_
      exact qr_iret (dkX12_named (i := 32) rfl) rfl rfl
    · refine qr_aload_n (n := 28) 0 (dkX12_named (i := 15) rfl) rfl rfl ?_
      refine qr_geta (n := 31) 0 21 8 (dkX12_named (i := 16) rfl) rfl lmO rfl gnX12 (Nat.le_of_ble_eq_true rfl) kfX12_40 rfl ?_
      refine qr_iload_n (n := 32) 2 (dkX12_named (i := 17) rfl) rfl rfl ?_
      refine qr_lald (n := 33) 8 18 (dkX12_named (i := 18) rfl) rfl lmA_8 ?_
      refine qr_aload_n (n := 34) 0 (dkX12_named (i := 19) rfl) rfl rfl ?_
      refine qr_geta (n := 37) 0 8 6 (dkX12_named (i := 20) rfl) rfl lmO rfl gnX12 (Nat.le_of_ble_eq_true rfl) kfX12_30 rfl ?_
      refine qr_iload_n (n := 38) 1 (dkX12_named (i := 21) rfl) rfl rfl ?_
      refine qr_lald (n := 39) 6 403 (dkX12_named (i := 22) rfl) rfl lmA_6 ?_
      refine qr_lcmp (n := 40) (dkX12_named (i := 23) rfl) rfl ?_
      refine qr_j (fun K_1 : qv_St → Option (qv_St × Int32) => ∀ (S_3 : qv_St), VV G Lm X RX12 cX12_named 3 (some .int) 4 qe_m 49 [(0, .ref (G.2.2.1 0)), (1, .int x1_1), (2, .int x2_1)] [] S_3 (K_1 S_3)) (fun S_3 => ?_) (fun K_1 hK_1 => ?_)
      · refine qr_iinc (n := 52) (v := 1) (lv2 := [(0, .ref (G.2.2.1 0)), (1, .int x1_1), (2, .int (x2_1 + 1))]) 2 [1, 2, 0] (dkX12_named (i := 29) rfl) rfl rfl (by decide) (by decide) rfl ?_
        refine qr_goto (n := 12) (dkX12_named (i := 30) rfl) (by decide) ?_
        exact hself_1 S_3 (x2_1 + 1)
      · refine qr_if_ne (t := 49) (n := 43) (dkX12_named (i := 24) rfl) (by decide) rfl ?_ ?_
        · exact hK_1 S_2
        · refine qr_aload_n (n := 44) 0 (dkX12_named (i := 25) rfl) rfl rfl ?_
          refine qr_iconst (n := 45) 3 (dkX12_named (i := 26) rfl) rfl (by decide) ?_
          refine qr_iload_n (n := 46) 1 (dkX12_named (i := 27) rfl) rfl rfl ?_
          refine qr_cvu (n := 49) 0 [.int 3, .int x1_1] (dkX12_named (i := 28) rfl) rfl kvX12_294 rfl rfl (Nat.le_of_ble_eq_true rfl) rfl rfl lmO rfl (wX12_wrong G S_2 3 x1_1) (fun S_4 => ?_)
          exact hK_1 S_4
def tbX12_bounded : List (Nat × Instr × Nat) := [(0, .aload_n 0, 1), (1, .getfield 212, 3), (4, .ifCond .gt 11, 3), (7, .aload_n 0, 1), (8, .iconst 2, 1), (9, .invokevirtual 230, 3), (12, .ifCond .ne 10, 3), (15, .aload_n 0, 1), (16, .iconst 1, 1), (17, .invokevirtual 227, 3), (20, .iload_n 1, 1), (21, .ireturn, 1), (22, .aload_n 0, 1), (23, .getfield 27, 3), (26, .aload_n 0, 1), (27, .getfield 215, 3), (30, .iaload, 1), (31, .istore_n 3, 1), (32, .iload_n 3, 1), (33, .iload_n 1, 1), (34, .if_icmp .lt 8, 3), (37, .iload_n 3, 1), (38, .iload_n 2, 1), (39, .if_icmp .le 12, 3), (42, .aload_n 0, 1), (43, .iconst 5, 1), (44, .aload_n 0, 1), (45, .getfield 215, 3), (48, .invokevirtual 294, 3), (51, .aload_n 0, 1), (52, .invokevirtual 233, 3), (55, .iload_n 3, 1), (56, .ireturn, 1)]
set_option maxRecDepth 20000 in
theorem daX12_bounded : ∀ x ∈ tbX12_bounded, decode cX12_bounded x.1 = .ok x.2 := by decide +kernel
theorem dkX12_bounded {i pc n : Nat} {ins : Instr} (h : tbX12_bounded[i]? = some (pc, ins, n)) : decode cX12_bounded pc = .ok (ins, n) := daX12_bounded (pc, ins, n) (List.mem_of_getElem? h)
def fX12_bounded (S0 : qv_St) (x1 : Int32) (x2 : Int32) : Option (qv_St × Int32) :=
  qv_j (
    (fX12_fail S0 1).bind fun S_1 =>
    some (S_1, x1)) fun K_1 =>
  if 0 < (S0.1 0 13) then
    K_1
  else
    (fX12_is S0 2).bind fun r_1 =>
    if r_1 = 0 then
      K_1
    else
      qv_ck (S0.1 0 11) 403 <|
      qv_b ((S0.1 5 (Int32.toNatClampNeg (S0.1 0 11))) : Int32) fun x3_1 =>
      qv_j (fun (S_2 : qv_St) =>
        (fX12_goesOn S_2).bind fun S_3 =>
        some (S_3, x3_1)) fun K_2 =>
      qv_j (
        (fX12_wrong S0 5 (S0.1 0 11)).bind fun S_4 =>
        K_2 S_4) fun K_3 =>
      if x3_1 < x1 then
        K_3
      else
        if x3_1 ≤ x2 then
          K_2 S0
        else
          K_3
set_option maxRecDepth 20000 in
set_option maxHeartbeats 4000000 in
theorem wX12_bounded (G : qv_GT) (S0 : qv_St) (x1 : Int32) (x2 : Int32) : ∀ r, fX12_bounded S0 x1 x2 = some r → Cn G Lm yX12_bounded cX12_bounded 4 (some .int) 3 [.ref (G.2.2.1 0), .int x1, .int x2] S0 (qe_m r) := by
  refine cn_of (own := RX12) (emb := qe_m) (lv := [(0, .ref (G.2.2.1 0)), (1, .int x1), (2, .int x2)]) rfl rfl (Nat.le_of_ble_eq_true rfl) rfl (fun X => ?_)
  unfold fX12_bounded
  refine qr_aload_n (n := 1) 0 (dkX12_bounded (i := 0) rfl) rfl rfl ?_
  refine qr_geti (n := 4) 0 13 (dkX12_bounded (i := 1) rfl) rfl lmO rfl gnX12 (Nat.le_of_ble_eq_true rfl) kfX12_212 rfl ?_
  refine qr_j (fun K_1 : Option (qv_St × Int32) => VV G Lm X RX12 cX12_bounded 4 (some .int) 3 qe_m 15 [(0, .ref (G.2.2.1 0)), (1, .int x1)] [] S0 (K_1)) (?_) (fun K_1 hK_1 => ?_)
  · refine qr_aload_n (n := 16) 0 (dkX12_bounded (i := 7) rfl) rfl rfl ?_
    refine qr_iconst (n := 17) 1 (dkX12_bounded (i := 8) rfl) rfl (by decide) ?_
    refine qr_cvu (n := 20) 0 [.int 1] (dkX12_bounded (i := 9) rfl) rfl kvX12_227 rfl rfl (Nat.le_of_ble_eq_true rfl) rfl rfl lmO rfl (wX12_fail G S0 1) (fun S_1 => ?_)
    refine qr_iload_n (n := 21) 1 (dkX12_bounded (i := 10) rfl) rfl rfl ?_
    exact qr_iret (dkX12_bounded (i := 11) rfl) rfl rfl
  · refine qr_if_gt (t := 15) (n := 7) (dkX12_bounded (i := 2) rfl) (by decide) rfl ?_ ?_
    · refine qr_sub [0, 1] rfl ?_
      exact hK_1
    · refine qr_aload_n (n := 8) 0 (dkX12_bounded (i := 3) rfl) rfl rfl ?_
      refine qr_iconst (n := 9) 2 (dkX12_bounded (i := 4) rfl) rfl (by decide) ?_
      refine qr_cvi (n := 12) 0 [.int 2] (dkX12_bounded (i := 5) rfl) rfl kvX12_230 rfl rfl (Nat.le_of_ble_eq_true rfl) rfl rfl lmO rfl (wX12_is G S0 2) (fun r_1 => ?_)
      refine qr_if_ne (t := 22) (n := 15) (dkX12_bounded (i := 6) rfl) (by decide) rfl ?_ ?_
      · refine qr_aload_n (n := 23) 0 (dkX12_bounded (i := 12) rfl) rfl rfl ?_
        refine qr_geta (n := 26) 0 7 5 (dkX12_bounded (i := 13) rfl) rfl lmO rfl gnX12 (Nat.le_of_ble_eq_true rfl) kfX12_27 rfl ?_
        refine qr_aload_n (n := 27) 0 (dkX12_bounded (i := 14) rfl) rfl rfl ?_
        refine qr_geti (n := 30) 0 11 (dkX12_bounded (i := 15) rfl) rfl lmO rfl gnX12 (Nat.le_of_ble_eq_true rfl) kfX12_215 rfl ?_
        refine qr_iald (n := 31) 5 403 (dkX12_bounded (i := 16) rfl) rfl lmA_5 ?_
        refine qr_b (α := Int32) (S0.1 5 (Int32.toNatClampNeg (S0.1 0 11))) (lvf := fun _ => [(0, .ref (G.2.2.1 0)), (1, .int x1), (2, .int x2)]) (stf := fun z => .int z :: []) (Sf := fun _ => S0) (fun x3_1 => ?_)
        refine qr_istore_n (n := 32) (lv2 := [(0, .ref (G.2.2.1 0)), (1, .int x1), (2, .int x2), (3, .int x3_1)]) [1, 2, 3, 0] (dkX12_bounded (i := 17) rfl) rfl rfl (by decide) rfl ?_
        refine qr_iload_n (n := 33) 3 (dkX12_bounded (i := 18) rfl) rfl rfl ?_
        refine qr_iload_n (n := 34) 1 (dkX12_bounded (i := 19) rfl) rfl rfl ?_
        refine qr_j (fun K_2 : qv_St → Option (qv_St × Int32) => ∀ (S_2 : qv_St), VV G Lm X RX12 cX12_bounded 4 (some .int) 3 qe_m 51 [(0, .ref (G.2.2.1 0)), (3, .int x3_1)] [] S_2 (K_2 S_2)) (fun S_2 => ?_) (fun K_2 hK_2 => ?_)
        · refine qr_aload_n (n := 52) 0 (dkX12_bounded (i := 29) rfl) rfl rfl ?_
          refine qr_cvu (n := 55) 0 [] (dkX12_bounded (i := 30) rfl) rfl kvX12_233 rfl rfl (Nat.le_of_ble_eq_true rfl) rfl rfl lmO rfl (wX12_goesOn G S_2) (fun S_3 => ?_)
          refine qr_iload_n (n := 56) 1 (dkX12_bounded (i := 31) rfl) rfl rfl ?_
          exact qr_iret (dkX12_bounded (i := 32) rfl) rfl rfl
        · refine qr_j (fun K_3 : Option (qv_St × Int32) => VV G Lm X RX12 cX12_bounded 4 (some .int) 3 qe_m 42 [(0, .ref (G.2.2.1 0)), (3, .int x3_1)] [] S0 (K_3)) (?_) (fun K_3 hK_3 => ?_)
          · refine qr_aload_n (n := 43) 0 (dkX12_bounded (i := 24) rfl) rfl rfl ?_
            refine qr_iconst (n := 44) 5 (dkX12_bounded (i := 25) rfl) rfl (by decide) ?_
            refine qr_aload_n (n := 45) 0 (dkX12_bounded (i := 26) rfl) rfl rfl ?_
            refine qr_geti (n := 48) 0 11 (dkX12_bounded (i := 27) rfl) rfl lmO rfl gnX12 (Nat.le_of_ble_eq_true rfl) kfX12_215 rfl ?_
            refine qr_cvu (n := 51) 0 [.int 5, .int (S0.1 0 11)] (dkX12_bounded (i := 28) rfl) rfl kvX12_294 rfl rfl (Nat.le_of_ble_eq_true rfl) rfl rfl lmO rfl (wX12_wrong G S0 5 (S0.1 0 11)) (fun S_4 => ?_)
            exact hK_2 S_4
          · refine qr_icmp_lt (t := 42) (n := 37) (dkX12_bounded (i := 20) rfl) (by decide) rfl ?_ ?_
            · refine qr_sub [0, 3] rfl ?_
              exact hK_3
            · refine qr_iload_n (n := 38) 3 (dkX12_bounded (i := 21) rfl) rfl rfl ?_
              refine qr_iload_n (n := 39) 2 (dkX12_bounded (i := 22) rfl) rfl rfl ?_
              refine qr_icmp_le (t := 51) (n := 42) (dkX12_bounded (i := 23) rfl) (by decide) rfl ?_ ?_
              · refine qr_sub [0, 3] rfl ?_
                exact hK_2 S0
              · refine qr_sub [0, 3] rfl ?_
                exact hK_3
      · refine qr_sub [0, 1] rfl ?_
        exact hK_1
