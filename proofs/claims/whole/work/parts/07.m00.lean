def tbX12_put : List (Nat × Instr × Nat) := [(0, .bipush 24, 2), (2, .istore_n 2, 1), (3, .iload_n 2, 1), (4, .ifCond .lt 32, 3), (7, .aload_n 0, 1), (8, .getfield 13, 3), (11, .aload_n 0, 1), (12, .getfield 175, 3), (15, .iload_n 1, 1), (16, .iload_n 2, 1), (17, .ishr, 1), (18, .i2b, 1), (19, .bastore, 1), (20, .aload_n 0, 1), (21, .dup, 1), (22, .getfield 175, 3), (25, .iconst 1, 1), (26, .iadd, 1), (27, .putfield 175, 3), (30, .iinc 2 (-8), 3), (33, .goto (-30), 3), (36, .return_, 1)]
set_option maxRecDepth 20000 in
theorem daX12_put : ∀ x ∈ tbX12_put, decode cX12_put x.1 = .ok x.2 := by decide +kernel
theorem dkX12_put {i pc n : Nat} {ins : Instr} (h : tbX12_put[i]? = some (pc, ins, n)) : decode cX12_put pc = .ok (ins, n) := daX12_put (pc, ins, n) (List.mem_of_getElem? h)
def fX12_put (S0 : qv_St) (x1 : Int32) : Option qv_St :=
  qv_lp2 qv_N (fun self_1 (S_1 : qv_St) (x2_1 : Int32) =>
    if x2_1 < 0 then
      some S_1
    else
      qv_ck (S_1.1 0 2) 2000 <| qv_b (qv_si S_1 1 (Int32.toNatClampNeg (S_1.1 0 2)) (vp_nar .byte ((Int32.toInt8 (x1 >>> (x2_1 &&& 31))).toInt32))) fun S_2 =>
      qv_b (qv_si S_2 0 2 ((S_2.1 0 2) + 1)) fun S_3 =>
      self_1 S_3 (x2_1 + (-8))) S0 24
set_option maxRecDepth 20000 in
set_option maxHeartbeats 4000000 in
theorem wX12_put (G : qv_GT) (S0 : qv_St) (x1 : Int32) : ∀ r, fX12_put S0 x1 = some r → Cn G Lm yX12_put cX12_put 3 none 1 [.ref (G.2.2.1 0), .int x1] S0 (qe_u r) := by
  refine cn_of (own := RX12) (emb := qe_u) (lv := [(0, .ref (G.2.2.1 0)), (1, .int x1)]) rfl rfl (Nat.le_of_ble_eq_true rfl) rfl (fun X => ?_)
  unfold fX12_put
  refine qr_bipush (n := 2) 24 (dkX12_put (i := 0) rfl) rfl (by decide) ?_
  refine qr_istore_n (n := 3) (lv2 := [(0, .ref (G.2.2.1 0)), (1, .int x1), (2, .int 24)]) [1, 2, 0] (dkX12_put (i := 1) rfl) rfl rfl (by decide) rfl ?_
  refine qr_lp2 (fun (S_1 : qv_St) (x2_1 : Int32) => [(0, .ref (G.2.2.1 0)), (1, .int x1), (2, .int x2_1)]) (fun (S_1 : qv_St) (x2_1 : Int32) => S_1) (fun self_1 hself_1 S_1 x2_1 => ?_) qv_N S0 24
  refine qr_iload_n (n := 4) 2 (dkX12_put (i := 2) rfl) rfl rfl ?_
  refine qr_if_lt (t := 36) (n := 7) (dkX12_put (i := 3) rfl) (by decide) rfl ?_ ?_
  · exact qr_vret (dkX12_put (i := 21) rfl) rfl rfl
  · refine qr_aload_n (n := 8) 0 (dkX12_put (i := 4) rfl) rfl rfl ?_
    refine qr_geta (n := 11) 0 1 1 (dkX12_put (i := 5) rfl) rfl lmO rfl gnX12 (Nat.le_of_ble_eq_true rfl) kf12_13 rfl ?_
    refine qr_aload_n (n := 12) 0 (dkX12_put (i := 6) rfl) rfl rfl ?_
    refine qr_geti (n := 15) 0 2 (dkX12_put (i := 7) rfl) rfl lmO rfl gnX12 (Nat.le_of_ble_eq_true rfl) kf12_175 rfl ?_
    refine qr_iload_n (n := 16) 1 (dkX12_put (i := 8) rfl) rfl rfl ?_
    refine qr_iload_n (n := 17) 2 (dkX12_put (i := 9) rfl) rfl rfl ?_
    refine qr_ishr (n := 18) (dkX12_put (i := 10) rfl) rfl ?_
    refine qr_i2b (n := 19) (dkX12_put (i := 11) rfl) rfl ?_
    refine qr_bast (n := 20) 1 2000 (dkX12_put (i := 12) rfl) rfl lmA_1 (fun S_2 => ?_)
    refine qr_aload_n (n := 21) 0 (dkX12_put (i := 13) rfl) rfl rfl ?_
    refine qr_dup (n := 22) (dkX12_put (i := 14) rfl) rfl rfl ?_
    refine qr_geti (n := 25) 0 2 (dkX12_put (i := 15) rfl) rfl lmO rfl gnX12 (Nat.le_of_ble_eq_true rfl) kf12_175 rfl ?_
    refine qr_iconst (n := 26) 1 (dkX12_put (i := 16) rfl) rfl (by decide) ?_
    refine qr_iadd (n := 27) (dkX12_put (i := 17) rfl) rfl ?_
    refine qr_puti (n := 30) 0 2 (dkX12_put (i := 18) rfl) rfl lmO rfl gnX12 (Nat.le_of_ble_eq_true rfl) kf12_175 rfl tyX12_ok nmX12 rfl rfl (fun S_3 => ?_)
    refine qr_iinc (n := 33) (v := (-8)) (lv2 := [(0, .ref (G.2.2.1 0)), (1, .int x1), (2, .int (x2_1 + (-8)))]) 2 [1, 2, 0] (dkX12_put (i := 19) rfl) rfl rfl (by decide) (by decide) rfl ?_
    refine qr_goto (n := 3) (dkX12_put (i := 20) rfl) (by decide) ?_
    exact hself_1 S_3 (x2_1 + (-8))
def tbX12_feed : List (Nat × Instr × Nat) := [(0, .aload_n 0, 1), (1, .getfield 175, 3), (4, .bipush 20, 2), (6, .iadd, 1), (7, .sipush 2000, 3), (10, .if_icmp .le 5, 3), (13, .iconst (-1), 1), (14, .ireturn, 1), (15, .aload_n 0, 1), (16, .iload_n 1, 1), (17, .invokevirtual 178, 3), (20, .aload_n 0, 1), (21, .iload_n 2, 1), (22, .invokevirtual 178, 3), (25, .aload_n 0, 1), (26, .iload_n 3, 1), (27, .invokevirtual 178, 3), (30, .aload_n 0, 1), (31, .iload 4, 2), (33, .invokevirtual 178, 3), (36, .aload_n 0, 1), (37, .iload 5, 2), (39, .invokevirtual 178, 3), (42, .aload_n 0, 1), (43, .getfield 175, 3), (46, .ireturn, 1)]
set_option maxRecDepth 20000 in
theorem daX12_feed : ∀ x ∈ tbX12_feed, decode cX12_feed x.1 = .ok x.2 := by decide +kernel
theorem dkX12_feed {i pc n : Nat} {ins : Instr} (h : tbX12_feed[i]? = some (pc, ins, n)) : decode cX12_feed pc = .ok (ins, n) := daX12_feed (pc, ins, n) (List.mem_of_getElem? h)
def fX12_feed (S0 : qv_St) (x1 : Int32) (x2 : Int32) (x3 : Int32) (x4 : Int32) (x5 : Int32) : Option (qv_St × Int32) :=
  if ((S0.1 0 2) + 20) ≤ 2000 then
    (fX12_put S0 x1).bind fun S_1 =>
    (fX12_put S_1 x2).bind fun S_2 =>
    (fX12_put S_2 x3).bind fun S_3 =>
    (fX12_put S_3 x4).bind fun S_4 =>
    (fX12_put S_4 x5).bind fun S_5 =>
    some (S_5, (S_5.1 0 2))
  else
    some (S0, (-1))
set_option maxRecDepth 20000 in
set_option maxHeartbeats 4000000 in
theorem wX12_feed (G : qv_GT) (S0 : qv_St) (x1 : Int32) (x2 : Int32) (x3 : Int32) (x4 : Int32) (x5 : Int32) : ∀ r, fX12_feed S0 x1 x2 x3 x4 x5 = some r → Cn G Lm yX12_feed cX12_feed 6 (some .int) 2 [.ref (G.2.2.1 0), .int x1, .int x2, .int x3, .int x4, .int x5] S0 (qe_m r) := by
  refine cn_of (own := RX12) (emb := qe_m) (lv := [(0, .ref (G.2.2.1 0)), (1, .int x1), (2, .int x2), (3, .int x3), (4, .int x4), (5, .int x5)]) rfl rfl (Nat.le_of_ble_eq_true rfl) rfl (fun X => ?_)
  unfold fX12_feed
  refine qr_aload_n (n := 1) 0 (dkX12_feed (i := 0) rfl) rfl rfl ?_
  refine qr_geti (n := 4) 0 2 (dkX12_feed (i := 1) rfl) rfl lmO rfl gnX12 (Nat.le_of_ble_eq_true rfl) kf12_175 rfl ?_
  refine qr_bipush (n := 6) 20 (dkX12_feed (i := 2) rfl) rfl (by decide) ?_
  refine qr_iadd (n := 7) (dkX12_feed (i := 3) rfl) rfl ?_
  refine qr_sipush (n := 10) 2000 (dkX12_feed (i := 4) rfl) rfl (by decide) ?_
  refine qr_icmp_le (t := 15) (n := 13) (dkX12_feed (i := 5) rfl) (by decide) rfl ?_ ?_
  · refine qr_aload_n (n := 16) 0 (dkX12_feed (i := 8) rfl) rfl rfl ?_
    refine qr_iload_n (n := 17) 1 (dkX12_feed (i := 9) rfl) rfl rfl ?_
    refine qr_cvu (n := 20) 0 [.int x1] (dkX12_feed (i := 10) rfl) rfl kv12_178 rfl rfl (Nat.le_of_ble_eq_true rfl) rfl rfl lmO rfl (wX12_put G S0 x1) (fun S_1 => ?_)
    refine qr_aload_n (n := 21) 0 (dkX12_feed (i := 11) rfl) rfl rfl ?_
    refine qr_iload_n (n := 22) 2 (dkX12_feed (i := 12) rfl) rfl rfl ?_
    refine qr_cvu (n := 25) 0 [.int x2] (dkX12_feed (i := 13) rfl) rfl kv12_178 rfl rfl (Nat.le_of_ble_eq_true rfl) rfl rfl lmO rfl (wX12_put G S_1 x2) (fun S_2 => ?_)
    refine qr_aload_n (n := 26) 0 (dkX12_feed (i := 14) rfl) rfl rfl ?_
    refine qr_iload_n (n := 27) 3 (dkX12_feed (i := 15) rfl) rfl rfl ?_
    refine qr_cvu (n := 30) 0 [.int x3] (dkX12_feed (i := 16) rfl) rfl kv12_178 rfl rfl (Nat.le_of_ble_eq_true rfl) rfl rfl lmO rfl (wX12_put G S_2 x3) (fun S_3 => ?_)
    refine qr_aload_n (n := 31) 0 (dkX12_feed (i := 17) rfl) rfl rfl ?_
    refine qr_iload (n := 33) 4 (dkX12_feed (i := 18) rfl) rfl rfl ?_
    refine qr_cvu (n := 36) 0 [.int x4] (dkX12_feed (i := 19) rfl) rfl kv12_178 rfl rfl (Nat.le_of_ble_eq_true rfl) rfl rfl lmO rfl (wX12_put G S_3 x4) (fun S_4 => ?_)
    refine qr_aload_n (n := 37) 0 (dkX12_feed (i := 20) rfl) rfl rfl ?_
    refine qr_iload (n := 39) 5 (dkX12_feed (i := 21) rfl) rfl rfl ?_
    refine qr_cvu (n := 42) 0 [.int x5] (dkX12_feed (i := 22) rfl) rfl kv12_178 rfl rfl (Nat.le_of_ble_eq_true rfl) rfl rfl lmO rfl (wX12_put G S_4 x5) (fun S_5 => ?_)
    refine qr_aload_n (n := 43) 0 (dkX12_feed (i := 23) rfl) rfl rfl ?_
    refine qr_geti (n := 46) 0 2 (dkX12_feed (i := 24) rfl) rfl lmO rfl gnX12 (Nat.le_of_ble_eq_true rfl) kf12_175 rfl ?_
    exact qr_iret (dkX12_feed (i := 25) rfl) rfl rfl
  · refine qr_iconst (n := 14) (-1) (dkX12_feed (i := 6) rfl) rfl (by decide) ?_
    exact qr_iret (dkX12_feed (i := 7) rfl) rfl rfl
def tbX12_back : List (Nat × Instr × Nat) := [(0, .iload_n 1, 1), (1, .ifCond .lt 11, 3), (4, .iload_n 1, 1), (5, .aload_n 0, 1), (6, .getfield 175, 3), (9, .if_icmp .le 5, 3), (12, .iconst (-1), 1), (13, .ireturn, 1), (14, .aload_n 0, 1), (15, .dup, 1), (16, .getfield 175, 3), (19, .iload_n 1, 1), (20, .isub, 1), (21, .putfield 175, 3), (24, .aload_n 0, 1), (25, .getfield 175, 3), (28, .ireturn, 1)]
set_option maxRecDepth 20000 in
theorem daX12_back : ∀ x ∈ tbX12_back, decode cX12_back x.1 = .ok x.2 := by decide +kernel
theorem dkX12_back {i pc n : Nat} {ins : Instr} (h : tbX12_back[i]? = some (pc, ins, n)) : decode cX12_back pc = .ok (ins, n) := daX12_back (pc, ins, n) (List.mem_of_getElem? h)
def fX12_back (S0 : qv_St) (x1 : Int32) : Option (qv_St × Int32) :=
  if x1 < 0 then
    some (S0, (-1))
  else
    if x1 ≤ (S0.1 0 2) then
      qv_b (qv_si S0 0 2 ((S0.1 0 2) - x1)) fun S_1 =>
      some (S_1, (S_1.1 0 2))
    else
      some (S0, (-1))
set_option maxRecDepth 20000 in
set_option maxHeartbeats 4000000 in
theorem wX12_back (G : qv_GT) (S0 : qv_St) (x1 : Int32) : ∀ r, fX12_back S0 x1 = some r → Cn G Lm yX12_back cX12_back 2 (some .int) 1 [.ref (G.2.2.1 0), .int x1] S0 (qe_m r) := by
  refine cn_of (own := RX12) (emb := qe_m) (lv := [(0, .ref (G.2.2.1 0)), (1, .int x1)]) rfl rfl (Nat.le_of_ble_eq_true rfl) rfl (fun X => ?_)
  unfold fX12_back
  refine qr_iload_n (n := 1) 1 (dkX12_back (i := 0) rfl) rfl rfl ?_
  refine qr_if_lt (t := 12) (n := 4) (dkX12_back (i := 1) rfl) (by decide) rfl ?_ ?_
  · refine qr_iconst (n := 13) (-1) (dkX12_back (i := 6) rfl) rfl (by decide) ?_
    exact qr_iret (dkX12_back (i := 7) rfl) rfl rfl
  · refine qr_iload_n (n := 5) 1 (dkX12_back (i := 2) rfl) rfl rfl ?_
    refine qr_aload_n (n := 6) 0 (dkX12_back (i := 3) rfl) rfl rfl ?_
    refine qr_geti (n := 9) 0 2 (dkX12_back (i := 4) rfl) rfl lmO rfl gnX12 (Nat.le_of_ble_eq_true rfl) kf12_175 rfl ?_
    refine qr_icmp_le (t := 14) (n := 12) (dkX12_back (i := 5) rfl) (by decide) rfl ?_ ?_
    · refine qr_aload_n (n := 15) 0 (dkX12_back (i := 8) rfl) rfl rfl ?_
      refine qr_dup (n := 16) (dkX12_back (i := 9) rfl) rfl rfl ?_
      refine qr_geti (n := 19) 0 2 (dkX12_back (i := 10) rfl) rfl lmO rfl gnX12 (Nat.le_of_ble_eq_true rfl) kf12_175 rfl ?_
      refine qr_iload_n (n := 20) 1 (dkX12_back (i := 11) rfl) rfl rfl ?_
      refine qr_isub (n := 21) (dkX12_back (i := 12) rfl) rfl ?_
      refine qr_puti (n := 24) 0 2 (dkX12_back (i := 13) rfl) rfl lmO rfl gnX12 (Nat.le_of_ble_eq_true rfl) kf12_175 rfl tyX12_ok nmX12 rfl rfl (fun S_1 => ?_)
      refine qr_aload_n (n := 25) 0 (dkX12_back (i := 14) rfl) rfl rfl ?_
      refine qr_geti (n := 28) 0 2 (dkX12_back (i := 15) rfl) rfl lmO rfl gnX12 (Nat.le_of_ble_eq_true rfl) kf12_175 rfl ?_
      exact qr_iret (dkX12_back (i := 16) rfl) rfl rfl
    · refine qr_iconst (n := 13) (-1) (dkX12_back (i := 6) rfl) rfl (by decide) ?_
      exact qr_iret (dkX12_back (i := 7) rfl) rfl rfl
def tbX12_byteAt : List (Nat × Instr × Nat) := [(0, .iload_n 1, 1), (1, .aload_n 0, 1), (2, .getfield 181, 3), (5, .if_icmp .ge 16, 3), (8, .aload_n 0, 1), (9, .getfield 17, 3), (12, .iload_n 1, 1), (13, .baload, 1), (14, .sipush 255, 3), (17, .iand, 1), (18, .goto 4, 3), (21, .iconst 0, 1), (22, .ireturn, 1)]
set_option maxRecDepth 20000 in
theorem daX12_byteAt : ∀ x ∈ tbX12_byteAt, decode cX12_byteAt x.1 = .ok x.2 := by decide +kernel
theorem dkX12_byteAt {i pc n : Nat} {ins : Instr} (h : tbX12_byteAt[i]? = some (pc, ins, n)) : decode cX12_byteAt pc = .ok (ins, n) := daX12_byteAt (pc, ins, n) (List.mem_of_getElem? h)
def fX12_byteAt (S0 : qv_St) (x1 : Int32) : Option Int32 :=
  if (S0.1 0 4) ≤ x1 then
    some 0
  else
    qv_ck x1 2000 <|
    some ((S0.1 2 (Int32.toNatClampNeg x1)) &&& 255)
set_option maxRecDepth 20000 in
set_option maxHeartbeats 4000000 in
theorem wX12_byteAt (G : qv_GT) (S0 : qv_St) (x1 : Int32) : ∀ r, fX12_byteAt S0 x1 = some r → Cn G Lm yX12_byteAt cX12_byteAt 2 (some .int) 1 [.ref (G.2.2.1 0), .int x1] S0 ((qe_i S0) r) := by
  refine cn_of (own := RX12) (emb := (qe_i S0)) (lv := [(0, .ref (G.2.2.1 0)), (1, .int x1)]) rfl rfl (Nat.le_of_ble_eq_true rfl) rfl (fun X => ?_)
  unfold fX12_byteAt
  refine qr_iload_n (n := 1) 1 (dkX12_byteAt (i := 0) rfl) rfl rfl ?_
  refine qr_aload_n (n := 2) 0 (dkX12_byteAt (i := 1) rfl) rfl rfl ?_
  refine qr_geti (n := 5) 0 4 (dkX12_byteAt (i := 2) rfl) rfl lmO rfl gnX12 (Nat.le_of_ble_eq_true rfl) kf12_181 rfl ?_
  refine qr_icmp_ge (t := 21) (n := 8) (dkX12_byteAt (i := 3) rfl) (by decide) rfl ?_ ?_
  · refine qr_iconst (n := 22) 0 (dkX12_byteAt (i := 11) rfl) rfl (by decide) ?_
    exact qr_iret (dkX12_byteAt (i := 12) rfl) rfl rfl
  · refine qr_aload_n (n := 9) 0 (dkX12_byteAt (i := 4) rfl) rfl rfl ?_
    refine qr_geta (n := 12) 0 3 2 (dkX12_byteAt (i := 5) rfl) rfl lmO rfl gnX12 (Nat.le_of_ble_eq_true rfl) kf12_17 rfl ?_
    refine qr_iload_n (n := 13) 1 (dkX12_byteAt (i := 6) rfl) rfl rfl ?_
    refine qr_bald (n := 14) 2 2000 (dkX12_byteAt (i := 7) rfl) rfl lmA_2 ?_
    refine qr_sipush (n := 17) 255 (dkX12_byteAt (i := 8) rfl) rfl (by decide) ?_
    refine qr_iand (n := 18) (dkX12_byteAt (i := 9) rfl) rfl ?_
    refine qr_goto (n := 22) (dkX12_byteAt (i := 10) rfl) (by decide) ?_
    exact qr_iret (dkX12_byteAt (i := 12) rfl) rfl rfl
def tbX12_isDigit : List (Nat × Instr × Nat) := [(0, .iload_n 0, 1), (1, .bipush 48, 2), (3, .if_icmp .lt 13, 3), (6, .iload_n 0, 1), (7, .bipush 57, 2), (9, .if_icmp .gt 7, 3), (12, .iconst 1, 1), (13, .goto 4, 3), (16, .iconst 0, 1), (17, .ireturn, 1)]
set_option maxRecDepth 20000 in
theorem daX12_isDigit : ∀ x ∈ tbX12_isDigit, decode cX12_isDigit x.1 = .ok x.2 := by decide +kernel
theorem dkX12_isDigit {i pc n : Nat} {ins : Instr} (h : tbX12_isDigit[i]? = some (pc, ins, n)) : decode cX12_isDigit pc = .ok (ins, n) := daX12_isDigit (pc, ins, n) (List.mem_of_getElem? h)
def fX12_isDigit (x0 : Int32) : Option Int32 :=
  qv_j (
    some 0) fun K_1 =>
  if x0 < 48 then
    K_1
  else
    if 57 < x0 then
      K_1
    else
      some 1
set_option maxRecDepth 20000 in
set_option maxHeartbeats 4000000 in
theorem wX12_isDigit (G : qv_GT) (S0 : qv_St) (x0 : Int32) : ∀ r, fX12_isDigit x0 = some r → Cn G Lm yX12_isDigit cX12_isDigit 1 (some .boolean) 1 [.int x0] S0 ((qe_i S0) r) := by
  refine cn_of (own := RX12) (emb := (qe_i S0)) (lv := [(0, .int x0)]) rfl rfl (Nat.le_of_ble_eq_true rfl) rfl (fun X => ?_)
  unfold fX12_isDigit
  refine qr_iload_n (n := 1) 0 (dkX12_isDigit (i := 0) rfl) rfl rfl ?_
  refine qr_bipush (n := 3) 48 (dkX12_isDigit (i := 1) rfl) rfl (by decide) ?_
  refine qr_j (fun K_1 : Option Int32 => VV G Lm X RX12 cX12_isDigit 1 (some .boolean) 1 (qe_i S0) 16 [] [] S0 (K_1)) (?_) (fun K_1 hK_1 => ?_)
  · refine qr_iconst (n := 17) 0 (dkX12_isDigit (i := 8) rfl) rfl (by decide) ?_
    exact qr_zretc (dkX12_isDigit (i := 9) rfl) rfl rfl rfl
  · refine qr_icmp_lt (t := 16) (n := 6) (dkX12_isDigit (i := 2) rfl) (by decide) rfl ?_ ?_
    · refine qr_sub [] rfl ?_
      exact hK_1
    · refine qr_iload_n (n := 7) 0 (dkX12_isDigit (i := 3) rfl) rfl rfl ?_
      refine qr_bipush (n := 9) 57 (dkX12_isDigit (i := 4) rfl) rfl (by decide) ?_
      refine qr_icmp_gt (t := 16) (n := 12) (dkX12_isDigit (i := 5) rfl) (by decide) rfl ?_ ?_
      · refine qr_sub [] rfl ?_
        exact hK_1
      · refine qr_iconst (n := 13) 1 (dkX12_isDigit (i := 6) rfl) rfl (by decide) ?_
        refine qr_goto (n := 17) (dkX12_isDigit (i := 7) rfl) (by decide) ?_
        exact qr_zretc (dkX12_isDigit (i := 9) rfl) rfl rfl rfl
def tbX12_isLetter : List (Nat × Instr × Nat) := [(0, .iload_n 0, 1), (1, .bipush 97, 2), (3, .if_icmp .lt 13, 3), (6, .iload_n 0, 1), (7, .bipush 122, 2), (9, .if_icmp .gt 7, 3), (12, .iconst 1, 1), (13, .goto 4, 3), (16, .iconst 0, 1), (17, .ireturn, 1)]
set_option maxRecDepth 20000 in
theorem daX12_isLetter : ∀ x ∈ tbX12_isLetter, decode cX12_isLetter x.1 = .ok x.2 := by decide +kernel
theorem dkX12_isLetter {i pc n : Nat} {ins : Instr} (h : tbX12_isLetter[i]? = some (pc, ins, n)) : decode cX12_isLetter pc = .ok (ins, n) := daX12_isLetter (pc, ins, n) (List.mem_of_getElem? h)
def fX12_isLetter (x0 : Int32) : Option Int32 :=
  qv_j (
    some 0) fun K_1 =>
  if x0 < 97 then
    K_1
  else
    if 122 < x0 then
      K_1
    else
      some 1
set_option maxRecDepth 20000 in
set_option maxHeartbeats 4000000 in
theorem wX12_isLetter (G : qv_GT) (S0 : qv_St) (x0 : Int32) : ∀ r, fX12_isLetter x0 = some r → Cn G Lm yX12_isLetter cX12_isLetter 1 (some .boolean) 1 [.int x0] S0 ((qe_i S0) r) := by
  refine cn_of (own := RX12) (emb := (qe_i S0)) (lv := [(0, .int x0)]) rfl rfl (Nat.le_of_ble_eq_true rfl) rfl (fun X => ?_)
  unfold fX12_isLetter
  refine qr_iload_n (n := 1) 0 (dkX12_isLetter (i := 0) rfl) rfl rfl ?_
  refine qr_bipush (n := 3) 97 (dkX12_isLetter (i := 1) rfl) rfl (by decide) ?_
  refine qr_j (fun K_1 : Option Int32 => VV G Lm X RX12 cX12_isLetter 1 (some .boolean) 1 (qe_i S0) 16 [] [] S0 (K_1)) (?_) (fun K_1 hK_1 => ?_)
  · refine qr_iconst (n := 17) 0 (dkX12_isLetter (i := 8) rfl) rfl (by decide) ?_
    exact qr_zretc (dkX12_isLetter (i := 9) rfl) rfl rfl rfl
  · refine qr_icmp_lt (t := 16) (n := 6) (dkX12_isLetter (i := 2) rfl) (by decide) rfl ?_ ?_
    · refine qr_sub [] rfl ?_
      exact hK_1
    · refine qr_iload_n (n := 7) 0 (dkX12_isLetter (i := 3) rfl) rfl rfl ?_
      refine qr_bipush (n := 9) 122 (dkX12_isLetter (i := 4) rfl) rfl (by decide) ?_
      refine qr_icmp_gt (t := 16) (n := 12) (dkX12_isLetter (i := 5) rfl) (by decide) rfl ?_ ?_
      · refine qr_sub [] rfl ?_
        exact hK_1
      · refine qr_iconst (n := 13) 1 (dkX12_isLetter (i := 6) rfl) rfl (by decide) ?_
        refine qr_goto (n := 17) (dkX12_isLetter (i := 7) rfl) (by decide) ?_
        exact qr_zretc (dkX12_isLetter (i := 9) rfl) rfl rfl rfl
