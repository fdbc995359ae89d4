def tbX2_becomeOnly : List (Nat × Instr × Nat) := [(0, .aload_n 0, 1), (1, .iconst 0, 1), (2, .putfield 23, 3), (5, .aload_n 0, 1), (6, .iload_n 1, 1), (7, .invokevirtual 27, 3), (10, .aload_n 0, 1), (11, .bipush (-59), 2), (13, .invokevirtual 27, 3), (16, .return_, 1)]
set_option maxRecDepth 20000 in
theorem daX2_becomeOnly : ∀ x ∈ tbX2_becomeOnly, decode cX2_becomeOnly x.1 = .ok x.2 := by decide +kernel
theorem dkX2_becomeOnly {i pc n : Nat} {ins : Instr} (h : tbX2_becomeOnly[i]? = some (pc, ins, n)) : decode cX2_becomeOnly pc = .ok (ins, n) := daX2_becomeOnly (pc, ins, n) (List.mem_of_getElem? h)
def fX2_becomeOnly (S0 : qv_St) (q : Nat) (x1 : Int32) : Option qv_St :=
  qv_b (qv_si S0 q 3 0) fun S_1 =>
  (fX2_emit S_1 q x1).bind fun S_2 =>
  (fX2_emit S_2 q (-59)).bind fun S_3 =>
  some S_3
set_option maxRecDepth 20000 in
set_option maxHeartbeats 4000000 in
theorem wX2_becomeOnly (G : qv_GT) (S0 : qv_St) (q : Nat) (x1 : Int32) (hq : isL q) : ∀ r, fX2_becomeOnly S0 q x1 = some r → Cn G Lk yX2_becomeOnly cX2_becomeOnly 2 none 2 [.ref (G.2.2.1 q), .int x1] S0 (qe_u r) := by
  refine cn_of (own := RX2) (emb := qe_u) (lv := [(0, .ref (G.2.2.1 q)), (1, .int x1)]) rfl rfl (Nat.le_of_ble_eq_true rfl) rfl (fun X => ?_)
  unfold fX2_becomeOnly
  refine qr_aload_n (n := 1) 0 (dkX2_becomeOnly (i := 0) rfl) rfl rfl ?_
  refine qr_iconst (n := 2) 0 (dkX2_becomeOnly (i := 1) rfl) rfl (by decide) ?_
  refine qr_puti (n := 5) q 3 (dkX2_becomeOnly (i := 2) rfl) rfl hq.1 rfl gnX2 (Nat.le_of_ble_eq_true rfl) kfX2_23 rfl tyX2_ok nmX2 rfl rfl (fun S_1 => ?_)
  refine qr_aload_n (n := 6) 0 (dkX2_becomeOnly (i := 3) rfl) rfl rfl ?_
  refine qr_iload_n (n := 7) 1 (dkX2_becomeOnly (i := 4) rfl) rfl rfl ?_
  refine qr_cvu (n := 10) q [.int x1] (dkX2_becomeOnly (i := 5) rfl) rfl kvX2_27 rfl rfl (Nat.le_of_ble_eq_true rfl) rfl rfl hq.1 rfl (wX2_emit G S_1 q x1 hq) (fun S_2 => ?_)
  refine qr_aload_n (n := 11) 0 (dkX2_becomeOnly (i := 6) rfl) rfl rfl ?_
  refine qr_bipush (n := 13) (-59) (dkX2_becomeOnly (i := 7) rfl) rfl (by decide) ?_
  refine qr_cvu (n := 16) q [.int (-59)] (dkX2_becomeOnly (i := 8) rfl) rfl kvX2_27 rfl rfl (Nat.le_of_ble_eq_true rfl) rfl rfl hq.1 rfl (wX2_emit G S_2 q (-59) hq) (fun S_3 => ?_)
  exact qr_vret (dkX2_becomeOnly (i := 9) rfl) rfl rfl
def tbX9_kindAt : List (Nat × Instr × Nat) := [(0, .iload_n 1, 1), (1, .ifCond .lt 20, 3), (4, .iload_n 1, 1), (5, .aload_n 0, 1), (6, .getfield 22, 3), (9, .if_icmp .ge 12, 3), (12, .aload_n 0, 1), (13, .getfield 11, 3), (16, .iload_n 1, 1), (17, .iaload, 1), (18, .goto 5, 3), (21, .bipush 24, 2), (23, .ireturn, 1)]
set_option maxRecDepth 20000 in
theorem daX9_kindAt : ∀ x ∈ tbX9_kindAt, decode cX9_kindAt x.1 = .ok x.2 := by decide +kernel
theorem dkX9_kindAt {i pc n : Nat} {ins : Instr} (h : tbX9_kindAt[i]? = some (pc, ins, n)) : decode cX9_kindAt pc = .ok (ins, n) := daX9_kindAt (pc, ins, n) (List.mem_of_getElem? h)
def fX9_kindAt (S0 : qv_St) (x1 : Int32) : Option Int32 :=
  qv_j (
    some 24) fun K_1 =>
  if x1 < 0 then
    K_1
  else
    if (S0.1 3 4) ≤ x1 then
      K_1
    else
      qv_ck x1 401 <|
      some (S0.1 4 (Int32.toNatClampNeg x1))
set_option maxRecDepth 20000 in
set_option maxHeartbeats 4000000 in
theorem wX9_kindAt (G : qv_GT) (S0 : qv_St) (x1 : Int32) : ∀ r, fX9_kindAt S0 x1 = some r → Cn G Lk yX9_kindAt cX9_kindAt 2 (some .int) 1 [.ref (G.2.2.1 3), .int x1] S0 ((qe_i S0) r) := by
  refine cn_of (own := RX9) (emb := (qe_i S0)) (lv := [(0, .ref (G.2.2.1 3)), (1, .int x1)]) rfl rfl (Nat.le_of_ble_eq_true rfl) rfl (fun X => ?_)
  unfold fX9_kindAt
  refine qr_iload_n (n := 1) 1 (dkX9_kindAt (i := 0) rfl) rfl rfl ?_
  refine qr_j (fun K_1 : Option Int32 => VV G Lk X RX9 cX9_kindAt 2 (some .int) 1 (qe_i S0) 21 [] [] S0 (K_1)) (?_) (fun K_1 hK_1 => ?_)
  · refine qr_bipush (n := 23) 24 (dkX9_kindAt (i := 11) rfl) rfl (by decide) ?_
    exact qr_iret (dkX9_kindAt (i := 12) rfl) rfl rfl
  · refine qr_if_lt (t := 21) (n := 4) (dkX9_kindAt (i := 1) rfl) (by decide) rfl ?_ ?_
    · refine qr_sub [] rfl ?_
      exact hK_1
    · refine qr_iload_n (n := 5) 1 (dkX9_kindAt (i := 2) rfl) rfl rfl ?_
      refine qr_aload_n (n := 6) 0 (dkX9_kindAt (i := 3) rfl) rfl rfl ?_
      refine qr_geti (n := 9) 3 4 (dkX9_kindAt (i := 4) rfl) rfl lkO_3 rfl gnX9 (Nat.le_of_ble_eq_true rfl) kfX9_22 rfl ?_
      refine qr_icmp_ge (t := 21) (n := 12) (dkX9_kindAt (i := 5) rfl) (by decide) rfl ?_ ?_
      · refine qr_sub [] rfl ?_
        exact hK_1
      · refine qr_aload_n (n := 13) 0 (dkX9_kindAt (i := 6) rfl) rfl rfl ?_
        refine qr_geta (n := 16) 3 0 4 (dkX9_kindAt (i := 7) rfl) rfl lkO_3 rfl gnX9 (Nat.le_of_ble_eq_true rfl) kfX9_11 rfl ?_
        refine qr_iload_n (n := 17) 1 (dkX9_kindAt (i := 8) rfl) rfl rfl ?_
        refine qr_iald (n := 18) 4 401 (dkX9_kindAt (i := 9) rfl) rfl lkA_4 ?_
        refine qr_goto (n := 23) (dkX9_kindAt (i := 10) rfl) (by decide) ?_
        exact qr_iret (dkX9_kindAt (i := 12) rfl) rfl rfl
def tbX9_valueAt : List (Nat × Instr × Nat) := [(0, .iload_n 1, 1), (1, .ifCond .lt 20, 3), (4, .iload_n 1, 1), (5, .aload_n 0, 1), (6, .getfield 22, 3), (9, .if_icmp .ge 12, 3), (12, .aload_n 0, 1), (13, .getfield 18, 3), (16, .iload_n 1, 1), (17, .laload, 1), (18, .goto 4, 3), (21, .lconst 0, 1), (22, .lreturn, 1)]
set_option maxRecDepth 20000 in
theorem daX9_valueAt : ∀ x ∈ tbX9_valueAt, decode cX9_valueAt x.1 = .ok x.2 := by decide +kernel
theorem dkX9_valueAt {i pc n : Nat} {ins : Instr} (h : tbX9_valueAt[i]? = some (pc, ins, n)) : decode cX9_valueAt pc = .ok (ins, n) := daX9_valueAt (pc, ins, n) (List.mem_of_getElem? h)
def fX9_valueAt (S0 : qv_St) (x1 : Int32) : Option Int64 :=
  qv_j (
    some 0) fun K_1 =>
  if x1 < 0 then
    K_1
  else
    if (S0.1 3 4) ≤ x1 then
      K_1
    else
      qv_ck x1 401 <|
      some (S0.2 6 (Int32.toNatClampNeg x1))
set_option maxRecDepth 20000 in
set_option maxHeartbeats 4000000 in
theorem wX9_valueAt (G : qv_GT) (S0 : qv_St) (x1 : Int32) : ∀ r, fX9_valueAt S0 x1 = some r → Cn G Lk yX9_valueAt cX9_valueAt 2 (some .long) 1 [.ref (G.2.2.1 3), .int x1] S0 ((qe_l S0) r) := by
  refine cn_of (own := RX9) (emb := (qe_l S0)) (lv := [(0, .ref (G.2.2.1 3)), (1, .int x1)]) rfl rfl (Nat.le_of_ble_eq_true rfl) rfl (fun X => ?_)
  unfold fX9_valueAt
  refine qr_iload_n (n := 1) 1 (dkX9_valueAt (i := 0) rfl) rfl rfl ?_
  refine qr_j (fun K_1 : Option Int64 => VV G Lk X RX9 cX9_valueAt 2 (some .long) 1 (qe_l S0) 21 [] [] S0 (K_1)) (?_) (fun K_1 hK_1 => ?_)
  · refine qr_lconst (n := 22) 0 (dkX9_valueAt (i := 11) rfl) rfl (by decide) ?_
    exact qr_lret (dkX9_valueAt (i := 12) rfl) rfl rfl
  · refine qr_if_lt (t := 21) (n := 4) (dkX9_valueAt (i := 1) rfl) (by decide) rfl ?_ ?_
    · refine qr_sub [] rfl ?_
      exact hK_1
    · refine qr_iload_n (n := 5) 1 (dkX9_valueAt (i := 2) rfl) rfl rfl ?_
      refine qr_aload_n (n := 6) 0 (dkX9_valueAt (i := 3) rfl) rfl rfl ?_
      refine qr_geti (n := 9) 3 4 (dkX9_valueAt (i := 4) rfl) rfl lkO_3 rfl gnX9 (Nat.le_of_ble_eq_true rfl) kfX9_22 rfl ?_
      refine qr_icmp_ge (t := 21) (n := 12) (dkX9_valueAt (i := 5) rfl) (by decide) rfl ?_ ?_
      · refine qr_sub [] rfl ?_
        exact hK_1
      · refine qr_aload_n (n := 13) 0 (dkX9_valueAt (i := 6) rfl) rfl rfl ?_
        refine qr_geta (n := 16) 3 2 6 (dkX9_valueAt (i := 7) rfl) rfl lkO_3 rfl gnX9 (Nat.le_of_ble_eq_true rfl) kfX9_18 rfl ?_
        refine qr_iload_n (n := 17) 1 (dkX9_valueAt (i := 8) rfl) rfl rfl ?_
        refine qr_lald (n := 18) 6 401 (dkX9_valueAt (i := 9) rfl) rfl lkA_6 ?_
        refine qr_goto (n := 22) (dkX9_valueAt (i := 10) rfl) (by decide) ?_
        exact qr_lret (dkX9_valueAt (i := 12) rfl) rfl rfl
def tbX9_intAt : List (Nat × Instr × Nat) := [(0, .aload_n 0, 1), (1, .iload_n 1, 1), (2, .invokevirtual 59, 3), (5, .l2i, 1), (6, .ireturn, 1)]
set_option maxRecDepth 20000 in
theorem daX9_intAt : ∀ x ∈ tbX9_intAt, decode cX9_intAt x.1 = .ok x.2 := by decide +kernel
theorem dkX9_intAt {i pc n : Nat} {ins : Instr} (h : tbX9_intAt[i]? = some (pc, ins, n)) : decode cX9_intAt pc = .ok (ins, n) := daX9_intAt (pc, ins, n) (List.mem_of_getElem? h)
def fX9_intAt (S0 : qv_St) (x1 : Int32) : Option Int32 :=
  (fX9_valueAt S0 x1).bind fun r_1 =>
  some (Int64.toInt32 r_1)
set_option maxRecDepth 20000 in
set_option maxHeartbeats 4000000 in
theorem wX9_intAt (G : qv_GT) (S0 : qv_St) (x1 : Int32) : ∀ r, fX9_intAt S0 x1 = some r → Cn G Lk yX9_intAt cX9_intAt 2 (some .int) 2 [.ref (G.2.2.1 3), .int x1] S0 ((qe_i S0) r) := by
  refine cn_of (own := RX9) (emb := (qe_i S0)) (lv := [(0, .ref (G.2.2.1 3)), (1, .int x1)]) rfl rfl (Nat.le_of_ble_eq_true rfl) rfl (fun X => ?_)
  unfold fX9_intAt
  refine qr_aload_n (n := 1) 0 (dkX9_intAt (i := 0) rfl) rfl rfl ?_
  refine qr_iload_n (n := 2) 1 (dkX9_intAt (i := 1) rfl) rfl rfl ?_
  refine qr_cvl (n := 5) 3 [.int x1] (dkX9_intAt (i := 2) rfl) rfl kvX9_59 rfl rfl (Nat.le_of_ble_eq_true rfl) rfl rfl lkO_3 rfl (wX9_valueAt G S0 x1) (fun r_1 => ?_)
  refine qr_l2i (n := 6) (dkX9_intAt (i := 3) rfl) rfl ?_
  exact qr_iret (dkX9_intAt (i := 4) rfl) rfl rfl
def tbX2_putOperator : List (Nat × Instr × Nat) := [(0, .aload_n 0, 1), (1, .getfield 31, 3), (4, .bipush 32, 2), (6, .if_icmp .ge 23, 3), (9, .aload_n 0, 1), (10, .getfield 20, 3), (13, .aload_n 0, 1), (14, .getfield 31, 3), (17, .iload_n 1, 1), (18, .iastore, 1), (19, .aload_n 0, 1), (20, .dup, 1), (21, .getfield 31, 3), (24, .iconst 1, 1), (25, .iadd, 1), (26, .putfield 31, 3), (29, .return_, 1)]
set_option maxRecDepth 20000 in
theorem daX2_putOperator : ∀ x ∈ tbX2_putOperator, decode cX2_putOperator x.1 = .ok x.2 := by decide +kernel
theorem dkX2_putOperator {i pc n : Nat} {ins : Instr} (h : tbX2_putOperator[i]? = some (pc, ins, n)) : decode cX2_putOperator pc = .ok (ins, n) := daX2_putOperator (pc, ins, n) (List.mem_of_getElem? h)
def fX2_putOperator (S0 : qv_St) (q : Nat) (x1 : Int32) : Option qv_St :=
  if 32 ≤ (S0.1 q 4) then
    some S0
  else
    qv_ck (S0.1 q 4) 32 <| qv_b (qv_si S0 (q + 3) (Int32.toNatClampNeg (S0.1 q 4)) x1) fun S_1 =>
    qv_b (qv_si S_1 q 4 ((S_1.1 q 4) + 1)) fun S_2 =>
    some S_2
set_option maxRecDepth 20000 in
set_option maxHeartbeats 4000000 in
theorem wX2_putOperator (G : qv_GT) (S0 : qv_St) (q : Nat) (x1 : Int32) (hq : isL q) : ∀ r, fX2_putOperator S0 q x1 = some r → Cn G Lk yX2_putOperator cX2_putOperator 2 none 1 [.ref (G.2.2.1 q), .int x1] S0 (qe_u r) := by
  refine cn_of (own := RX2) (emb := qe_u) (lv := [(0, .ref (G.2.2.1 q)), (1, .int x1)]) rfl rfl (Nat.le_of_ble_eq_true rfl) rfl (fun X => ?_)
  unfold fX2_putOperator
  refine qr_aload_n (n := 1) 0 (dkX2_putOperator (i := 0) rfl) rfl rfl ?_
  refine qr_geti (n := 4) q 4 (dkX2_putOperator (i := 1) rfl) rfl hq.1 rfl gnX2 (Nat.le_of_ble_eq_true rfl) kfX2_31 rfl ?_
  refine qr_bipush (n := 6) 32 (dkX2_putOperator (i := 2) rfl) rfl (by decide) ?_
  refine qr_icmp_ge (t := 29) (n := 9) (dkX2_putOperator (i := 3) rfl) (by decide) rfl ?_ ?_
  · exact qr_vret (dkX2_putOperator (i := 16) rfl) rfl rfl
  · refine qr_aload_n (n := 10) 0 (dkX2_putOperator (i := 4) rfl) rfl rfl ?_
    refine qr_geta (n := 13) q 2 (q + 3) (dkX2_putOperator (i := 5) rfl) rfl hq.1 rfl gnX2 (Nat.le_of_ble_eq_true rfl) kfX2_20 rfl ?_
    refine qr_aload_n (n := 14) 0 (dkX2_putOperator (i := 6) rfl) rfl rfl ?_
    refine qr_geti (n := 17) q 4 (dkX2_putOperator (i := 7) rfl) rfl hq.1 rfl gnX2 (Nat.le_of_ble_eq_true rfl) kfX2_31 rfl ?_
    refine qr_iload_n (n := 18) 1 (dkX2_putOperator (i := 8) rfl) rfl rfl ?_
    refine qr_iast (n := 19) (q + 3) 32 (dkX2_putOperator (i := 9) rfl) rfl hq.2.2.2 (fun S_1 => ?_)
    refine qr_aload_n (n := 20) 0 (dkX2_putOperator (i := 10) rfl) rfl rfl ?_
    refine qr_dup (n := 21) (dkX2_putOperator (i := 11) rfl) rfl rfl ?_
    refine qr_geti (n := 24) q 4 (dkX2_putOperator (i := 12) rfl) rfl hq.1 rfl gnX2 (Nat.le_of_ble_eq_true rfl) kfX2_31 rfl ?_
    refine qr_iconst (n := 25) 1 (dkX2_putOperator (i := 13) rfl) rfl (by decide) ?_
    refine qr_iadd (n := 26) (dkX2_putOperator (i := 14) rfl) rfl ?_
    refine qr_puti (n := 29) q 4 (dkX2_putOperator (i := 15) rfl) rfl hq.1 rfl gnX2 (Nat.le_of_ble_eq_true rfl) kfX2_31 rfl tyX2_ok nmX2 rfl rfl (fun S_2 => ?_)
    exact qr_vret (dkX2_putOperator (i := 16) rfl) rfl rfl
def tbX2_rankOf : List (Nat × Instr × Nat) := [(0, .iload_n 0, 1), (1, .bipush 43, 2), (3, .if_icmp .eq 9, 3), (6, .iload_n 0, 1), (7, .bipush 45, 2), (9, .if_icmp .ne 5, 3), (12, .iconst 1, 1), (13, .ireturn, 1), (14, .iload_n 0, 1), (15, .bipush 42, 2), (17, .if_icmp .eq 9, 3), (20, .iload_n 0, 1), (21, .bipush 47, 2), (23, .if_icmp .ne 7, 3), (26, .iconst 2, 1), (27, .goto 4, 3), (30, .iconst 0, 1), (31, .ireturn, 1)]
set_option maxRecDepth 20000 in
theorem daX2_rankOf : ∀ x ∈ tbX2_rankOf, decode cX2_rankOf x.1 = .ok x.2 := by decide +kernel
theorem dkX2_rankOf {i pc n : Nat} {ins : Instr} (h : tbX2_rankOf[i]? = some (pc, ins, n)) : decode cX2_rankOf pc = .ok (ins, n) := daX2_rankOf (pc, ins, n) (List.mem_of_getElem? h)
def fX2_rankOf (x0 : Int32) : Option Int32 :=
  if x0 = 43 then
    some 1
  else
    if x0 = 45 then
      some 1
    else
      qv_j (
        some 2) fun K_1 =>
      if x0 = 42 then
        K_1
      else
        if x0 = 47 then
          K_1
        else
          some 0
set_option maxRecDepth 20000 in
set_option maxHeartbeats 4000000 in
theorem wX2_rankOf (G : qv_GT) (S0 : qv_St) (x0 : Int32) : ∀ r, fX2_rankOf x0 = some r → Cn G Lk yX2_rankOf cX2_rankOf 1 (some .int) 1 [.int x0] S0 ((qe_i S0) r) := by
  refine cn_of (own := RX2) (emb := (qe_i S0)) (lv := [(0, .int x0)]) rfl rfl (Nat.le_of_ble_eq_true rfl) rfl (fun X => ?_)
  unfold fX2_rankOf
  refine qr_iload_n (n := 1) 0 (dkX2_rankOf (i := 0) rfl) rfl rfl ?_
  refine qr_bipush (n := 3) 43 (dkX2_rankOf (i := 1) rfl) rfl (by decide) ?_
  refine qr_icmp_eq (t := 12) (n := 6) (dkX2_rankOf (i := 2) rfl) (by decide) rfl ?_ ?_
  · refine qr_iconst (n := 13) 1 (dkX2_rankOf (i := 6) rfl) rfl (by decide) ?_
    exact qr_iret (dkX2_rankOf (i := 7) rfl) rfl rfl
  · refine qr_iload_n (n := 7) 0 (dkX2_rankOf (i := 3) rfl) rfl rfl ?_
    refine qr_bipush (n := 9) 45 (dkX2_rankOf (i := 4) rfl) rfl (by decide) ?_
    refine qr_icmp_ne (t := 14) (n := 12) (dkX2_rankOf (i := 5) rfl) (by decide) rfl ?_ ?_
    · refine qr_iload_n (n := 15) 0 (dkX2_rankOf (i := 8) rfl) rfl rfl ?_
      refine qr_bipush (n := 17) 42 (dkX2_rankOf (i := 9) rfl) rfl (by decide) ?_
      refine qr_j (fun K_1 : Option Int32 => VV G Lk X RX2 cX2_rankOf 1 (some .int) 1 (qe_i S0) 26 [] [] S0 (K_1)) (?_) (fun K_1 hK_1 => ?_)
      · refine qr_iconst (n := 27) 2 (dkX2_rankOf (i := 14) rfl) rfl (by decide) ?_
        refine qr_goto (n := 31) (dkX2_rankOf (i := 15) rfl) (by decide) ?_
        exact qr_iret (dkX2_rankOf (i := 17) rfl) rfl rfl
      · refine qr_icmp_eq (t := 26) (n := 20) (dkX2_rankOf (i := 10) rfl) (by decide) rfl ?_ ?_
        · refine qr_sub [] rfl ?_
          exact hK_1
        · refine qr_iload_n (n := 21) 0 (dkX2_rankOf (i := 11) rfl) rfl rfl ?_
          refine qr_bipush (n := 23) 47 (dkX2_rankOf (i := 12) rfl) rfl (by decide) ?_
          refine qr_icmp_ne (t := 30) (n := 26) (dkX2_rankOf (i := 13) rfl) (by decide) rfl ?_ ?_
          · refine qr_iconst (n := 31) 0 (dkX2_rankOf (i := 16) rfl) rfl (by decide) ?_
            exact qr_iret (dkX2_rankOf (i := 17) rfl) rfl rfl
          · refine qr_sub [] rfl ?_
            exact hK_1
    · refine qr_iconst (n := 13) 1 (dkX2_rankOf (i := 6) rfl) rfl (by decide) ?_
      exact qr_iret (dkX2_rankOf (i := 7) rfl) rfl rfl
def tbX2_emitOperators : List (Nat × Instr × Nat) := [(0, .aload_n 0, 1), (1, .getfield 31, 3), (4, .ifCond .le 48, 3), (7, .aload_n 0, 1), (8, .getfield 20, 3), (11, .aload_n 0, 1), (12, .getfield 31, 3), (15, .iconst 1, 1), (16, .isub, 1), (17, .iaload, 1), (18, .invokestatic 56, 3), (21, .iload_n 1, 1), (22, .if_icmp .lt 30, 3), (25, .aload_n 0, 1), (26, .dup, 1), (27, .getfield 31, 3), (30, .iconst 1, 1), (31, .isub, 1), (32, .putfield 31, 3), (35, .aload_n 0, 1), (36, .aload_n 0, 1), (37, .getfield 20, 3), (40, .aload_n 0, 1), (41, .getfield 31, 3), (44, .iaload, 1), (45, .ineg, 1), (46, .invokevirtual 27, 3), (49, .goto (-49), 3), (52, .return_, 1)]
set_option maxRecDepth 20000 in
theorem daX2_emitOperators : ∀ x ∈ tbX2_emitOperators, decode cX2_emitOperators x.1 = .ok x.2 := by decide +kernel
theorem dkX2_emitOperators {i pc n : Nat} {ins : Instr} (h : tbX2_emitOperators[i]? = some (pc, ins, n)) : decode cX2_emitOperators pc = .ok (ins, n) := daX2_emitOperators (pc, ins, n) (List.mem_of_getElem? h)
def fX2_emitOperators (S0 : qv_St) (q : Nat) (x1 : Int32) : Option qv_St :=
  qv_lp1 qv_N (fun self_1 (S_1 : qv_St) =>
    if (S_1.1 q 4) ≤ 0 then
      some S_1
    else
      qv_ck ((S_1.1 q 4) - 1) 32 <|
      (fX2_rankOf (S_1.1 (q + 3) (Int32.toNatClampNeg ((S_1.1 q 4) - 1)))).bind fun r_1 =>
      if r_1 < x1 then
        some S_1
      else
        qv_b (qv_si S_1 q 4 ((S_1.1 q 4) - 1)) fun S_2 =>
        qv_ck (S_2.1 q 4) 32 <|
        (fX2_emit S_2 q (-(S_2.1 (q + 3) (Int32.toNatClampNeg (S_2.1 q 4))))).bind fun S_3 =>
        self_1 S_3) S0
set_option maxRecDepth 20000 in
set_option maxHeartbeats 4000000 in
theorem wX2_emitOperators (G : qv_GT) (S0 : qv_St) (q : Nat) (x1 : Int32) (hq : isL q) : ∀ r, fX2_emitOperators S0 q x1 = some r → Cn G Lk yX2_emitOperators cX2_emitOperators 2 none 2 [.ref (G.2.2.1 q), .int x1] S0 (qe_u r) := by
  refine cn_of (own := RX2) (emb := qe_u) (lv := [(0, .ref (G.2.2.1 q)), (1, .int x1)]) rfl rfl (Nat.le_of_ble_eq_true rfl) rfl (fun X => ?_)
  unfold fX2_emitOperators
  refine qr_lp1 (fun (S_1 : qv_St) => [(0, .ref (G.2.2.1 q)), (1, .int x1)]) (fun (S_1 : qv_St) => S_1) (fun self_1 hself_1 S_1 => ?_) qv_N S0
  refine qr_aload_n (n := 1) 0 (dkX2_emitOperators (i := 0) rfl) rfl rfl ?_
  refine qr_geti (n := 4) q 4 (dkX2_emitOperators (i := 1) rfl) rfl hq.1 rfl gnX2 (Nat.le_of_ble_eq_true rfl) kfX2_31 rfl ?_
  refine qr_if_le (t := 52) (n := 7) (dkX2_emitOperators (i := 2) rfl) (by decide) rfl ?_ ?_
  · exact qr_vret (dkX2_emitOperators (i := 28) rfl) rfl rfl
  · refine qr_aload_n (n := 8) 0 (dkX2_emitOperators (i := 3) rfl) rfl rfl ?_
    refine qr_geta (n := 11) q 2 (q + 3) (dkX2_emitOperators (i := 4) rfl) rfl hq.1 rfl gnX2 (Nat.le_of_ble_eq_true rfl) kfX2_20 rfl ?_
    refine qr_aload_n (n := 12) 0 (dkX2_emitOperators (i := 5) rfl) rfl rfl ?_
    refine qr_geti (n := 15) q 4 (dkX2_emitOperators (i := 6) rfl) rfl hq.1 rfl gnX2 (Nat.le_of_ble_eq_true rfl) kfX2_31 rfl ?_
    refine qr_iconst (n := 16) 1 (dkX2_emitOperators (i := 7) rfl) rfl (by decide) ?_
    refine qr_isub (n := 17) (dkX2_emitOperators (i := 8) rfl) rfl ?_
    refine qr_iald (n := 18) (q + 3) 32 (dkX2_emitOperators (i := 9) rfl) rfl hq.2.2.2 ?_
    refine qr_csi (n := 21) [.int (S_1.1 (q + 3) (Int32.toNatClampNeg ((S_1.1 q 4) - 1)))] (dkX2_emitOperators (i := 10) rfl) rfl kvX2_56 rfl rfl (Nat.le_of_ble_eq_true rfl) rfl rfl (wX2_rankOf G S_1 (S_1.1 (q + 3) (Int32.toNatClampNeg ((S_1.1 q 4) - 1)))) (fun r_1 => ?_)
    refine qr_iload_n (n := 22) 1 (dkX2_emitOperators (i := 11) rfl) rfl rfl ?_
    refine qr_icmp_lt (t := 52) (n := 25) (dkX2_emitOperators (i := 12) rfl) (by decide) rfl ?_ ?_
    · exact qr_vret (dkX2_emitOperators (i := 28) rfl) rfl rfl
    · refine qr_aload_n (n := 26) 0 (dkX2_emitOperators (i := 13) rfl) rfl rfl ?_
      refine qr_dup (n := 27) (dkX2_emitOperators (i := 14) rfl) rfl rfl ?_
      refine qr_geti (n := 30) q 4 (dkX2_emitOperators (i := 15) rfl) rfl hq.1 rfl gnX2 (Nat.le_of_ble_eq_true rfl) kfX2_31 rfl ?_
      refine qr_iconst (n := 31) 1 (dkX2_emitOperators (i := 16) rfl) rfl (by decide) ?_
      refine qr_isub (n := 32) (dkX2_emitOperators (i := 17) rfl) rfl ?_
      refine qr_puti (n := 35) q 4 (dkX2_emitOperators (i := 18) rfl) rfl hq.1 rfl gnX2 (Nat.le_of_ble_eq_true rfl) kfX2_31 rfl tyX2_ok nmX2 rfl rfl (fun S_2 => ?_)
      refine qr_aload_n (n := 36) 0 (dkX2_emitOperators (i := 19) rfl) rfl rfl ?_
      refine qr_aload_n (n := 37) 0 (dkX2_emitOperators (i := 20) rfl) rfl rfl ?_
      refine qr_geta (n := 40) q 2 (q + 3) (dkX2_emitOperators (i := 21) rfl) rfl hq.1 rfl gnX2 (Nat.le_of_ble_eq_true rfl) kfX2_20 rfl ?_
      refine qr_aload_n (n := 41) 0 (dkX2_emitOperators (i := 22) rfl) rfl rfl ?_
      refine qr_geti (n := 44) q 4 (dkX2_emitOperators (i := 23) rfl) rfl hq.1 rfl gnX2 (Nat.le_of_ble_eq_true rfl) kfX2_31 rfl ?_
      refine qr_iald (n := 45) (q + 3) 32 (dkX2_emitOperators (i := 24) rfl) rfl hq.2.2.2 ?_
      refine qr_ineg (n := 46) (dkX2_emitOperators (i := 25) rfl) rfl ?_
      refine qr_cvu (n := 49) q [.int (-(S_2.1 (q + 3) (Int32.toNatClampNeg (S_2.1 q 4))))] (dkX2_emitOperators (i := 26) rfl) rfl kvX2_27 rfl rfl (Nat.le_of_ble_eq_true rfl) rfl rfl hq.1 rfl (wX2_emit G S_2 q (-(S_2.1 (q + 3) (Int32.toNatClampNeg (S_2.1 q 4)))) hq) (fun S_3 => ?_)
      refine qr_goto (n := 0) (dkX2_emitOperators (i := 27) rfl) (by decide) ?_
      exact hself_1 S_3
def tbX2_endSum : List (Nat × Instr × Nat) := [(0, .aload_n 0, 1), (1, .iconst 1, 1), (2, .invokevirtual 47, 3), (5, .iload_n 1, 1), (6, .bipush 11, 2), (8, .if_icmp .ne 12, 3), (11, .aload_n 0, 1), (12, .bipush (-60), 2), (14, .invokevirtual 27, 3), (17, .goto 21, 3), (20, .iload_n 1, 1), (21, .bipush 12, 2), (23, .if_icmp .eq 9, 3), (26, .iload_n 1, 1), (27, .bipush 59, 2), (29, .if_icmp .ne 9, 3), (32, .aload_n 0, 1), (33, .bipush (-59), 2), (35, .invokevirtual 27, 3), (38, .return_, 1)]
set_option maxRecDepth 20000 in
theorem daX2_endSum : ∀ x ∈ tbX2_endSum, decode cX2_endSum x.1 = .ok x.2 := by decide +kernel
theorem dkX2_endSum {i pc n : Nat} {ins : Instr} (h : tbX2_endSum[i]? = some (pc, ins, n)) : decode cX2_endSum pc = .ok (ins, n) := daX2_endSum (pc, ins, n) (List.mem_of_getElem? h)
def fX2_endSum (S0 : qv_St) (q : Nat) (x1 : Int32) : Option qv_St :=
  (fX2_emitOperators S0 q 1).bind fun S_1 =>
  if x1 = 11 then
    (fX2_emit S_1 q (-60)).bind fun S_3 =>
    some S_3
  else
    qv_j (
      (fX2_emit S_1 q (-59)).bind fun S_2 =>
      some S_2) fun K_1 =>
    if x1 = 12 then
      K_1
    else
      if x1 = 59 then
        K_1
      else
        some S_1
set_option maxRecDepth 20000 in
set_option maxHeartbeats 4000000 in
theorem wX2_endSum (G : qv_GT) (S0 : qv_St) (q : Nat) (x1 : Int32) (hq : isL q) : ∀ r, fX2_endSum S0 q x1 = some r → Cn G Lk yX2_endSum cX2_endSum 2 none 3 [.ref (G.2.2.1 q), .int x1] S0 (qe_u r) := by
  refine cn_of (own := RX2) (emb := qe_u) (lv := [(0, .ref (G.2.2.1 q)), (1, .int x1)]) rfl rfl (Nat.le_of_ble_eq_true rfl) rfl (fun X => ?_)
  unfold fX2_endSum
  refine qr_aload_n (n := 1) 0 (dkX2_endSum (i := 0) rfl) rfl rfl ?_
  refine qr_iconst (n := 2) 1 (dkX2_endSum (i := 1) rfl) rfl (by decide) ?_
  refine qr_cvu (n := 5) q [.int 1] (dkX2_endSum (i := 2) rfl) rfl kvX2_47 rfl rfl (Nat.le_of_ble_eq_true rfl) rfl rfl hq.1 rfl (wX2_emitOperators G S0 q 1 hq) (fun S_1 => ?_)
  refine qr_iload_n (n := 6) 1 (dkX2_endSum (i := 3) rfl) rfl rfl ?_
  refine qr_bipush (n := 8) 11 (dkX2_endSum (i := 4) rfl) rfl (by decide) ?_
  refine qr_icmp_ne (t := 20) (n := 11) (dkX2_endSum (i := 5) rfl) (by decide) rfl ?_ ?_
  · refine qr_iload_n (n := 21) 1 (dkX2_endSum (i := 10) rfl) rfl rfl ?_
    refine qr_bipush (n := 23) 12 (dkX2_endSum (i := 11) rfl) rfl (by decide) ?_
    refine qr_j (fun K_1 : Option qv_St => VV G Lk X RX2 cX2_endSum 2 none 3 qe_u 32 [(0, .ref (G.2.2.1 q))] [] S_1 (K_1)) (?_) (fun K_1 hK_1 => ?_)
    · refine qr_aload_n (n := 33) 0 (dkX2_endSum (i := 16) rfl) rfl rfl ?_
      refine qr_bipush (n := 35) (-59) (dkX2_endSum (i := 17) rfl) rfl (by decide) ?_
      refine qr_cvu (n := 38) q [.int (-59)] (dkX2_endSum (i := 18) rfl) rfl kvX2_27 rfl rfl (Nat.le_of_ble_eq_true rfl) rfl rfl hq.1 rfl (wX2_emit G S_1 q (-59) hq) (fun S_2 => ?_)
      exact qr_vret (dkX2_endSum (i := 19) rfl) rfl rfl
    · refine qr_icmp_eq (t := 32) (n := 26) (dkX2_endSum (i := 12) rfl) (by decide) rfl ?_ ?_
      · refine qr_sub [0] rfl ?_
        exact hK_1
      · refine qr_iload_n (n := 27) 1 (dkX2_endSum (i := 13) rfl) rfl rfl ?_
        refine qr_bipush (n := 29) 59 (dkX2_endSum (i := 14) rfl) rfl (by decide) ?_
        refine qr_icmp_ne (t := 38) (n := 32) (dkX2_endSum (i := 15) rfl) (by decide) rfl ?_ ?_
        · exact qr_vret (dkX2_endSum (i := 19) rfl) rfl rfl
        · refine qr_sub [0] rfl ?_
          exact hK_1
  · refine qr_aload_n (n := 12) 0 (dkX2_endSum (i := 6) rfl) rfl rfl ?_
    refine qr_bipush (n := 14) (-60) (dkX2_endSum (i := 7) rfl) rfl (by decide) ?_
    refine qr_cvu (n := 17) q [.int (-60)] (dkX2_endSum (i := 8) rfl) rfl kvX2_27 rfl rfl (Nat.le_of_ble_eq_true rfl) rfl rfl hq.1 rfl (wX2_emit G S_1 q (-60) hq) (fun S_3 => ?_)
    refine qr_goto (n := 38) (dkX2_endSum (i := 9) rfl) (by decide) ?_
    exact qr_vret (dkX2_endSum (i := 19) rfl) rfl rfl
def tbX2_learn : List (Nat × Instr × Nat) := [(0, .aload_n 0, 1), (1, .iconst 0, 1), (2, .putfield 23, 3), (5, .aload_n 0, 1), (6, .iconst 0, 1), (7, .putfield 31, 3), (10, .bipush 10, 2), (12, .istore_n 3, 1), (13, .iload_n 2, 1), (14, .istore 4, 2), (16, .iload 4, 2), (18, .aload_n 1, 1), (19, .getfield 34, 3), (22, .if_icmp .ge 138, 3), (25, .iload_n 3, 1), (26, .bipush 59, 2), (28, .if_icmp .eq 132, 3), (31, .aload_n 1, 1), (32, .iload 4, 2), (34, .invokevirtual 37, 3), (37, .istore_n 3, 1), (38, .iload_n 3, 1), (39, .bipush 23, 2), (41, .if_icmp .ne 16, 3), (44, .aload_n 0, 1), (45, .aload_n 1, 1), (46, .iload 4, 2), (48, .invokevirtual 41, 3), (51, .invokevirtual 27, 3), (54, .goto 100, 3), (57, .iload_n 3, 1), (58, .bipush 13, 2), (60, .if_icmp .lt 18, 3), (63, .iload_n 3, 1), (64, .bipush 21, 2), (66, .if_icmp .gt 12, 3), (69, .aload_n 0, 1), (70, .iload_n 3, 1), (71, .ineg, 1), (72, .invokevirtual 27, 3), (75, .goto 79, 3), (78, .iload_n 3, 1), (79, .bipush 40, 2), (81, .if_icmp .ne 11, 3), (84, .aload_n 0, 1), (85, .iload_n 3, 1), (86, .invokevirtual 44, 3), (89, .goto 65, 3), (92, .iload_n 3, 1), (93, .bipush 41, 2), (95, .if_icmp .ne 25, 3), (98, .aload_n 0, 1), (99, .iconst 1, 1), (100, .invokevirtual 47, 3), (103, .aload_n 0, 1), (104, .iconst 0, 1), (105, .aload_n 0, 1), (106, .getfield 31, 3), (109, .iconst 1, 1), (110, .isub, 1), (111, .invokestatic 50, 3), (114, .putfield 31, 3), (117, .goto 37, 3), (120, .iload_n 3, 1), (121, .invokestatic 56, 3), (124, .ifCond .le 19, 3), (127, .aload_n 0, 1), (128, .iload_n 3, 1), (129, .invokestatic 56, 3), (132, .invokevirtual 47, 3), (135, .aload_n 0, 1), (136, .iload_n 3, 1), (137, .invokevirtual 44, 3), (140, .goto 14, 3), (143, .iload_n 3, 1), (144, .bipush 10, 2), (146, .if_icmp .eq 8, 3), (149, .aload_n 0, 1), (150, .iload_n 3, 1), (151, .invokevirtual 59, 3), (154, .iinc 4 1, 3), (157, .goto (-141), 3), (160, .return_, 1)]
set_option maxRecDepth 20000 in
theorem daX2_learn : ∀ x ∈ tbX2_learn, decode cX2_learn x.1 = .ok x.2 := by decide +kernel
theorem dkX2_learn {i pc n : Nat} {ins : Instr} (h : tbX2_learn[i]? = some (pc, ins, n)) : decode cX2_learn pc = .ok (ins, n) := daX2_learn (pc, ins, n) (List.mem_of_getElem? h)
def fX2_learn (S0 : qv_St) (q : Nat) (x2 : Int32) : Option qv_St :=
  qv_b (qv_si S0 q 3 0) fun S_1 =>
  qv_b (qv_si S_1 q 4 0) fun S_2 =>
  qv_lp3 qv_N (fun self_1 (S_3 : qv_St) (x3_1 : Int32) (x4_1 : Int32) =>
    if (S_3.1 3 4) ≤ x4_1 then
      some S_3
    else
      if x3_1 = 59 then
        some S_3
      else
        (fX9_kindAt S_3 x4_1).bind fun r_1 =>
        qv_j (fun (S_4 : qv_St) =>
          self_1 S_4 r_1 (x4_1 + 1)) fun K_1 =>
        if r_1 = 23 then
          (fX9_intAt S_3 x4_1).bind fun r_4 =>
          (fX2_emit S_3 q r_4).bind fun S_12 =>
          K_1 S_12
        else
          qv_j (
            if r_1 = 40 then
              (fX2_putOperator S_3 q r_1).bind fun S_10 =>
              K_1 S_10
            else
              if r_1 = 41 then
                (fX2_emitOperators S_3 q 1).bind fun S_8 =>
                qv_b (qv_si S_8 q 4 (qv_mx 0 ((S_8.1 q 4) - 1))) fun S_9 =>
                K_1 S_9
              else
                (fX2_rankOf r_1).bind fun r_2 =>
                if r_2 ≤ 0 then
                  if r_1 = 10 then
                    K_1 S_3
                  else
                    (fX2_endSum S_3 q r_1).bind fun S_5 =>
                    K_1 S_5
                else
                  (fX2_rankOf r_1).bind fun r_3 =>
                  (fX2_emitOperators S_3 q r_3).bind fun S_6 =>
                  (fX2_putOperator S_6 q r_1).bind fun S_7 =>
                  K_1 S_7) fun K_2 =>
          if r_1 < 13 then
            K_2
          else
            if 21 < r_1 then
              K_2
            else
              (fX2_emit S_3 q (-r_1)).bind fun S_11 =>
              K_1 S_11) S_2 10 x2
set_option maxRecDepth 20000 in
set_option maxHeartbeats 4000000 in
theorem wX2_learn (G : qv_GT) (S0 : qv_St) (q : Nat) (x2 : Int32) (hq : isL q) : ∀ r, fX2_learn S0 q x2 = some r → Cn G Lk yX2_learn cX2_learn 5 none 4 [.ref (G.2.2.1 q), .ref (G.2.2.1 3), .int x2] S0 (qe_u r) := by
  refine cn_of (own := RX2) (emb := qe_u) (lv := [(0, .ref (G.2.2.1 q)), (1, .ref (G.2.2.1 3)), (2, .int x2)]) rfl rfl (Nat.le_of_ble_eq_true rfl) rfl (fun X => ?_)
  unfold fX2_learn
  refine qr_aload_n (n := 1) 0 (dkX2_learn (i := 0) rfl) rfl rfl ?_
  refine qr_iconst (n := 2) 0 (dkX2_learn (i := 1) rfl) rfl (by decide) ?_
  refine qr_puti (n := 5) q 3 (dkX2_learn (i := 2) rfl) rfl hq.1 rfl gnX2 (Nat.le_of_ble_eq_true rfl) kfX2_23 rfl tyX2_ok nmX2 rfl rfl (fun S_1 => ?_)
  refine qr_aload_n (n := 6) 0 (dkX2_learn (i := 3) rfl) rfl rfl ?_
  refine qr_iconst (n := 7) 0 (dkX2_learn (i := 4) rfl) rfl (by decide) ?_
  refine qr_puti (n := 10) q 4 (dkX2_learn (i := 5) rfl) rfl hq.1 rfl gnX2 (Nat.le_of_ble_eq_true rfl) kfX2_31 rfl tyX2_ok nmX2 rfl rfl (fun S_2 => ?_)
  refine qr_bipush (n := 12) 10 (dkX2_learn (i := 6) rfl) rfl (by decide) ?_
  refine qr_istore_n (n := 13) (lv2 := [(0, .ref (G.2.2.1 q)), (1, .ref (G.2.2.1 3)), (2, .int x2), (3, .int 10)]) [1, 2, 3, 0] (dkX2_learn (i := 7) rfl) rfl rfl (by decide) rfl ?_
  refine qr_iload_n (n := 14) 2 (dkX2_learn (i := 8) rfl) rfl rfl ?_
  refine qr_istore (n := 16) (lv2 := [(0, .ref (G.2.2.1 q)), (1, .ref (G.2.2.1 3)), (2, .int x2), (3, .int 10), (4, .int x2)]) [1, 2, 3, 4, 0] (dkX2_learn (i := 9) rfl) rfl (by decide) rfl ?_
  refine qr_sub [0, 1, 3, 4] rfl ?_
  refine qr_lp3 (fun (S_3 : qv_St) (x3_1 : Int32) (x4_1 : Int32) => [(0, .ref (G.2.2.1 q)), (1, .ref (G.2.2.1 3)), (3, .int x3_1), (4, .int x4_1)]) (fun (S_3 : qv_St) (x3_1 : Int32) (x4_1 : Int32) => S_3) (fun self_1 hself_1 S_3 x3_1 x4_1 => ?_) qv_N S_2 10 x2
  refine qr_iload (n := 18) 3 (dkX2_learn (i := 10) rfl) rfl rfl ?_
  refine qr_aload_n (n := 19) 1 (dkX2_learn (i := 11) rfl) rfl rfl ?_
  refine qr_geti (n := 22) 3 4 (dkX2_learn (i := 12) rfl) rfl lkO_3 rfl gnX9 (Nat.le_of_ble_eq_true rfl) kfX2_34 rfl ?_
  refine qr_icmp_ge (t := 160) (n := 25) (dkX2_learn (i := 13) rfl) (by decide) rfl ?_ ?_
  · exact qr_vret (dkX2_learn (i := 82) rfl) rfl rfl
  · refine qr_iload_n (n := 26) 2 (dkX2_learn (i := 14) rfl) rfl rfl ?_
    refine qr_bipush (n := 28) 59 (dkX2_learn (i := 15) rfl) rfl (by decide) ?_
    refine qr_icmp_eq (t := 160) (n := 31) (dkX2_learn (i := 16) rfl) (by decide) rfl ?_ ?_
    · exact qr_vret (dkX2_learn (i := 82) rfl) rfl rfl
    · refine qr_aload_n (n := 32) 1 (dkX2_learn (i := 17) rfl) rfl rfl ?_
      refine qr_iload (n := 34) 3 (dkX2_learn (i := 18) rfl) rfl rfl ?_
      refine qr_cvi (n := 37) 3 [.int x4_1] (dkX2_learn (i := 19) rfl) rfl kvX2_37 rfl rfl (Nat.le_of_ble_eq_true rfl) rfl rfl lkO_3 rfl (wX9_kindAt G S_3 x4_1) (fun r_1 => ?_)
      refine qr_istore_n (n := 38) (lv2 := [(0, .ref (G.2.2.1 q)), (1, .ref (G.2.2.1 3)), (3, .int r_1), (4, .int x4_1)]) [1, 2, 0, 3] (dkX2_learn (i := 20) rfl) rfl rfl (by decide) rfl ?_
      refine qr_iload_n (n := 39) 2 (dkX2_learn (i := 21) rfl) rfl rfl ?_
      refine qr_bipush (n := 41) 23 (dkX2_learn (i := 22) rfl) rfl (by decide) ?_
      refine qr_j (fun K_1 : qv_St → Option qv_St => ∀ (S_4 : qv_St), VV G Lk X RX2 cX2_learn 5 none 4 qe_u 154 [(0, .ref (G.2.2.1 q)), (1, .ref (G.2.2.1 3)), (3, .int r_1), (4, .int x4_1)] [] S_4 (K_1 S_4)) (fun S_4 => ?_) (fun K_1 hK_1 => ?_)
      · refine qr_iinc (n := 157) (v := 1) (lv2 := [(0, .ref (G.2.2.1 q)), (1, .ref (G.2.2.1 3)), (3, .int r_1), (4, .int (x4_1 + 1))]) 3 [1, 2, 3, 0] (dkX2_learn (i := 80) rfl) rfl rfl (by decide) (by decide) rfl ?_
        refine qr_goto (n := 16) (dkX2_learn (i := 81) rfl) (by decide) ?_
        exact hself_1 S_4 r_1 (x4_1 + 1)
      · refine qr_icmp_ne (t := 57) (n := 44) (dkX2_learn (i := 23) rfl) (by decide) rfl ?_ ?_
        · refine qr_iload_n (n := 58) 2 (dkX2_learn (i := 30) rfl) rfl rfl ?_
          refine qr_bipush (n := 60) 13 (dkX2_learn (i := 31) rfl) rfl (by decide) ?_
          refine qr_j (fun K_2 : Option qv_St => VV G Lk X RX2 cX2_learn 5 none 4 qe_u 78 [(0, .ref (G.2.2.1 q)), (1, .ref (G.2.2.1 3)), (3, .int r_1), (4, .int x4_1)] [] S_3 (K_2)) (?_) (fun K_2 hK_2 => ?_)
          · refine qr_iload_n (n := 79) 2 (dkX2_learn (i := 41) rfl) rfl rfl ?_
            refine qr_bipush (n := 81) 40 (dkX2_learn (i := 42) rfl) rfl (by decide) ?_
            refine qr_icmp_ne (t := 92) (n := 84) (dkX2_learn (i := 43) rfl) (by decide) rfl ?_ ?_
            · refine qr_iload_n (n := 93) 2 (dkX2_learn (i := 48) rfl) rfl rfl ?_
              refine qr_bipush (n := 95) 41 (dkX2_learn (i := 49) rfl) rfl (by decide) ?_
              refine qr_icmp_ne (t := 120) (n := 98) (dkX2_learn (i := 50) rfl) (by decide) rfl ?_ ?_
              · refine qr_iload_n (n := 121) 2 (dkX2_learn (i := 63) rfl) rfl rfl ?_
                refine qr_csi (n := 124) [.int r_1] (dkX2_learn (i := 64) rfl) rfl kvX2_56 rfl rfl (Nat.le_of_ble_eq_true rfl) rfl rfl (wX2_rankOf G S_3 r_1) (fun r_2 => ?_)
                refine qr_if_le (t := 143) (n := 127) (dkX2_learn (i := 65) rfl) (by decide) rfl ?_ ?_
                · refine qr_iload_n (n := 144) 2 (dkX2_learn (i := 74) rfl) rfl rfl ?_
                  refine qr_bipush (n := 146) 10 (dkX2_learn (i := 75) rfl) rfl (by decide) ?_
                  refine qr_icmp_eq (t := 154) (n := 149) (dkX2_learn (i := 76) rfl) (by decide) rfl ?_ ?_
                  · exact hK_1 S_3
                  · refine qr_aload_n (n := 150) 0 (dkX2_learn (i := 77) rfl) rfl rfl ?_
                    refine qr_iload_n (n := 151) 2 (dkX2_learn (i := 78) rfl) rfl rfl ?_
                    refine qr_cvu (n := 154) q [.int r_1] (dkX2_learn (i := 79) rfl) rfl kvX2_59 rfl rfl (Nat.le_of_ble_eq_true rfl) rfl rfl hq.1 rfl (wX2_endSum G S_3 q r_1 hq) (fun S_5 => ?_)
                    exact hK_1 S_5
                · refine qr_aload_n (n := 128) 0 (dkX2_learn (i := 66) rfl) rfl rfl ?_
                  refine qr_iload_n (n := 129) 2 (dkX2_learn (i := 67) rfl) rfl rfl ?_
                  refine qr_csi (n := 132) [.int r_1] (dkX2_learn (i := 68) rfl) rfl kvX2_56 rfl rfl (Nat.le_of_ble_eq_true rfl) rfl rfl (wX2_rankOf G S_3 r_1) (fun r_3 => ?_)
                  refine qr_cvu (n := 135) q [.int r_3] (dkX2_learn (i := 69) rfl) rfl kvX2_47 rfl rfl (Nat.le_of_ble_eq_true rfl) rfl rfl hq.1 rfl (wX2_emitOperators G S_3 q r_3 hq) (fun S_6 => ?_)
                  refine qr_aload_n (n := 136) 0 (dkX2_learn (i := 70) rfl) rfl rfl ?_
                  refine qr_iload_n (n := 137) 2 (dkX2_learn (i := 71) rfl) rfl rfl ?_
                  refine qr_cvu (n := 140) q [.int r_1] (dkX2_learn (i := 72) rfl) rfl kvX2_44 rfl rfl (Nat.le_of_ble_eq_true rfl) rfl rfl hq.1 rfl (wX2_putOperator G S_6 q r_1 hq) (fun S_7 => ?_)
                  refine qr_goto (n := 154) (dkX2_learn (i := 73) rfl) (by decide) ?_
                  exact hK_1 S_7
              · refine qr_aload_n (n := 99) 0 (dkX2_learn (i := 51) rfl) rfl rfl ?_
                refine qr_iconst (n := 100) 1 (dkX2_learn (i := 52) rfl) rfl (by decide) ?_
                refine qr_cvu (n := 103) q [.int 1] (dkX2_learn (i := 53) rfl) rfl kvX2_47 rfl rfl (Nat.le_of_ble_eq_true rfl) rfl rfl hq.1 rfl (wX2_emitOperators G S_3 q 1 hq) (fun S_8 => ?_)
                refine qr_aload_n (n := 104) 0 (dkX2_learn (i := 54) rfl) rfl rfl ?_
                refine qr_iconst (n := 105) 0 (dkX2_learn (i := 55) rfl) rfl (by decide) ?_
                refine qr_aload_n (n := 106) 0 (dkX2_learn (i := 56) rfl) rfl rfl ?_
                refine qr_geti (n := 109) q 4 (dkX2_learn (i := 57) rfl) rfl hq.1 rfl gnX2 (Nat.le_of_ble_eq_true rfl) kfX2_31 rfl ?_
                refine qr_iconst (n := 110) 1 (dkX2_learn (i := 58) rfl) rfl (by decide) ?_
                refine qr_isub (n := 111) (dkX2_learn (i := 59) rfl) rfl ?_
                refine qr_max (n := 114) (dkX2_learn (i := 60) rfl) rfl kmX2_50 kmhmax1 kmh2 kmhmax3 rfl (Nat.le_of_ble_eq_true rfl) ?_
                refine qr_puti (n := 117) q 4 (dkX2_learn (i := 61) rfl) rfl hq.1 rfl gnX2 (Nat.le_of_ble_eq_true rfl) kfX2_31 rfl tyX2_ok nmX2 rfl rfl (fun S_9 => ?_)
                refine qr_goto (n := 154) (dkX2_learn (i := 62) rfl) (by decide) ?_
                exact hK_1 S_9
            · refine qr_aload_n (n := 85) 0 (dkX2_learn (i := 44) rfl) rfl rfl ?_
              refine qr_iload_n (n := 86) 2 (dkX2_learn (i := 45) rfl) rfl rfl ?_
              refine qr_cvu (n := 89) q [.int r_1] (dkX2_learn (i := 46) rfl) rfl kvX2_44 rfl rfl (Nat.le_of_ble_eq_true rfl) rfl rfl hq.1 rfl (wX2_putOperator G S_3 q r_1 hq) (fun S_10 => ?_)
              refine qr_goto (n := 154) (dkX2_learn (i := 47) rfl) (by decide) ?_
              exact hK_1 S_10
          · refine qr_icmp_lt (t := 78) (n := 63) (dkX2_learn (i := 32) rfl) (by decide) rfl ?_ ?_
            · exact hK_2
            · refine qr_iload_n (n := 64) 2 (dkX2_learn (i := 33) rfl) rfl rfl ?_
              refine qr_bipush (n := 66) 21 (dkX2_learn (i := 34) rfl) rfl (by decide) ?_
              refine qr_icmp_gt (t := 78) (n := 69) (dkX2_learn (i := 35) rfl) (by decide) rfl ?_ ?_
              · exact hK_2
              · refine qr_aload_n (n := 70) 0 (dkX2_learn (i := 36) rfl) rfl rfl ?_
                refine qr_iload_n (n := 71) 2 (dkX2_learn (i := 37) rfl) rfl rfl ?_
                refine qr_ineg (n := 72) (dkX2_learn (i := 38) rfl) rfl ?_
                refine qr_cvu (n := 75) q [.int (-r_1)] (dkX2_learn (i := 39) rfl) rfl kvX2_27 rfl rfl (Nat.le_of_ble_eq_true rfl) rfl rfl hq.1 rfl (wX2_emit G S_3 q (-r_1) hq) (fun S_11 => ?_)
                refine qr_goto (n := 154) (dkX2_learn (i := 40) rfl) (by decide) ?_
                exact hK_1 S_11
        · refine qr_aload_n (n := 45) 0 (dkX2_learn (i := 24) rfl) rfl rfl ?_
          refine qr_aload_n (n := 46) 1 (dkX2_learn (i := 25) rfl) rfl rfl ?_
          refine qr_iload (n := 48) 3 (dkX2_learn (i := 26) rfl) rfl rfl ?_
          refine qr_cvi (n := 51) 3 [.int x4_1] (dkX2_learn (i := 27) rfl) rfl kvX2_41 rfl rfl (Nat.le_of_ble_eq_true rfl) rfl rfl lkO_3 rfl (wX9_intAt G S_3 x4_1) (fun r_4 => ?_)
          refine qr_cvu (n := 54) q [.int r_4] (dkX2_learn (i := 28) rfl) rfl kvX2_27 rfl rfl (Nat.le_of_ble_eq_true rfl) rfl rfl hq.1 rfl (wX2_emit G S_3 q r_4 hq) (fun S_12 => ?_)
          refine qr_goto (n := 154) (dkX2_learn (i := 29) rfl) (by decide) ?_
          exact hK_1 S_12
def tbX5_allSeconds : List (Nat × Instr × Nat) := [(0, .iconst 1, 1), (1, .aload_n 0, 1), (2, .getfield 34, 3), (5, .iload_n 1, 1), (6, .iaload, 1), (7, .ishl, 1), (8, .iconst 1, 1), (9, .isub, 1), (10, .ireturn, 1)]
set_option maxRecDepth 20000 in
theorem daX5_allSeconds : ∀ x ∈ tbX5_allSeconds, decode cX5_allSeconds x.1 = .ok x.2 := by decide +kernel
theorem dkX5_allSeconds {i pc n : Nat} {ins : Instr} (h : tbX5_allSeconds[i]? = some (pc, ins, n)) : decode cX5_allSeconds pc = .ok (ins, n) := daX5_allSeconds (pc, ins, n) (List.mem_of_getElem? h)
def fX5_allSeconds (S0 : qv_St) (x1 : Int32) : Option Int32 :=
  qv_ck x1 6 <|
  some ((1 <<< ((S0.1 17 (Int32.toNatClampNeg x1)) &&& 31)) - 1)
set_option maxRecDepth 20000 in
set_option maxHeartbeats 4000000 in
theorem wX5_allSeconds (G : qv_GT) (S0 : qv_St) (x1 : Int32) : ∀ r, fX5_allSeconds S0 x1 = some r → Cn G Lk yX5_allSeconds cX5_allSeconds 2 (some .int) 1 [.ref (G.2.2.1 9), .int x1] S0 ((qe_i S0) r) := by
  refine cn_of (own := RX5) (emb := (qe_i S0)) (lv := [(0, .ref (G.2.2.1 9)), (1, .int x1)]) rfl rfl (Nat.le_of_ble_eq_true rfl) rfl (fun X => ?_)
  unfold fX5_allSeconds
  refine qr_iconst (n := 1) 1 (dkX5_allSeconds (i := 0) rfl) rfl (by decide) ?_
  refine qr_aload_n (n := 2) 0 (dkX5_allSeconds (i := 1) rfl) rfl rfl ?_
  refine qr_geta (n := 5) 9 10 17 (dkX5_allSeconds (i := 2) rfl) rfl lkO_9 rfl gnX5 (Nat.le_of_ble_eq_true rfl) kfX5_34 rfl ?_
  refine qr_iload_n (n := 6) 1 (dkX5_allSeconds (i := 3) rfl) rfl rfl ?_
  refine qr_iald (n := 7) 17 6 (dkX5_allSeconds (i := 4) rfl) rfl lkA_17 ?_
  refine qr_ishl (n := 8) (dkX5_allSeconds (i := 5) rfl) rfl ?_
  refine qr_iconst (n := 9) 1 (dkX5_allSeconds (i := 6) rfl) rfl (by decide) ?_
  refine qr_isub (n := 10) (dkX5_allSeconds (i := 7) rfl) rfl ?_
  exact qr_iret (dkX5_allSeconds (i := 8) rfl) rfl rfl
def tbX6_isDone : List (Nat × Instr × Nat) := [(0, .aload_n 0, 1), (1, .getfield 15, 3), (4, .iload_n 1, 1), (5, .iaload, 1), (6, .aload_n 2, 1), (7, .iload_n 1, 1), (8, .invokevirtual 49, 3), (11, .if_icmp .ne 7, 3), (14, .iconst 1, 1), (15, .goto 4, 3), (18, .iconst 0, 1), (19, .ireturn, 1)]
set_option maxRecDepth 20000 in
theorem daX6_isDone : ∀ x ∈ tbX6_isDone, decode cX6_isDone x.1 = .ok x.2 := by decide +kernel
theorem dkX6_isDone {i pc n : Nat} {ins : Instr} (h : tbX6_isDone[i]? = some (pc, ins, n)) : decode cX6_isDone pc = .ok (ins, n) := daX6_isDone (pc, ins, n) (List.mem_of_getElem? h)
def fX6_isDone (S0 : qv_St) (q : Nat) (x1 : Int32) : Option Int32 :=
  qv_ck x1 6 <|
  (fX5_allSeconds S0 x1).bind fun r_1 =>
  if (S0.1 (q + 2) (Int32.toNatClampNeg x1)) = r_1 then
    some 1
  else
    some 0
set_option maxRecDepth 20000 in
set_option maxHeartbeats 4000000 in
theorem wX6_isDone (G : qv_GT) (S0 : qv_St) (q : Nat) (x1 : Int32) (hq : isS q) : ∀ r, fX6_isDone S0 q x1 = some r → Cn G Lk yX6_isDone cX6_isDone 3 (some .boolean) 2 [.ref (G.2.2.1 q), .int x1, .ref (G.2.2.1 9)] S0 ((qe_i S0) r) := by
  refine cn_of (own := RX6) (emb := (qe_i S0)) (lv := [(0, .ref (G.2.2.1 q)), (1, .int x1), (2, .ref (G.2.2.1 9))]) rfl rfl (Nat.le_of_ble_eq_true rfl) rfl (fun X => ?_)
  unfold fX6_isDone
  refine qr_aload_n (n := 1) 0 (dkX6_isDone (i := 0) rfl) rfl rfl ?_
  refine qr_geta (n := 4) q 5 (q + 2) (dkX6_isDone (i := 1) rfl) rfl hq.1 rfl gnX6 (Nat.le_of_ble_eq_true rfl) kfX6_15 rfl ?_
  refine qr_iload_n (n := 5) 1 (dkX6_isDone (i := 2) rfl) rfl rfl ?_
  refine qr_iald (n := 6) (q + 2) 6 (dkX6_isDone (i := 3) rfl) rfl hq.2.2.1 ?_
  refine qr_aload_n (n := 7) 2 (dkX6_isDone (i := 4) rfl) rfl rfl ?_
  refine qr_iload_n (n := 8) 1 (dkX6_isDone (i := 5) rfl) rfl rfl ?_
  refine qr_cvi (n := 11) 9 [.int x1] (dkX6_isDone (i := 6) rfl) rfl kvX6_49 rfl rfl (Nat.le_of_ble_eq_true rfl) rfl rfl lkO_9 rfl (wX5_allSeconds G S0 x1) (fun r_1 => ?_)
  refine qr_icmp_ne (t := 18) (n := 14) (dkX6_isDone (i := 7) rfl) (by decide) rfl ?_ ?_
  · refine qr_iconst (n := 19) 0 (dkX6_isDone (i := 10) rfl) rfl (by decide) ?_
    exact qr_zretc (dkX6_isDone (i := 11) rfl) rfl rfl rfl
  · refine qr_iconst (n := 15) 1 (dkX6_isDone (i := 8) rfl) rfl (by decide) ?_
    refine qr_goto (n := 19) (dkX6_isDone (i := 9) rfl) (by decide) ?_
    exact qr_zretc (dkX6_isDone (i := 11) rfl) rfl rfl rfl
def tbX3_gather : List (Nat × Instr × Nat) := [(0, .aload_n 0, 1), (1, .iconst 0, 1), (2, .putfield 36, 3), (5, .iconst 0, 1), (6, .istore_n 1, 1), (7, .iload_n 1, 1), (8, .aload_n 0, 1), (9, .getfield 24, 3), (12, .getfield 40, 3), (15, .if_icmp .ge 52, 3), (18, .aload_n 0, 1), (19, .getfield 36, 3), (22, .iconst 5, 1), (23, .if_icmp .ge 44, 3), (26, .aload_n 0, 1), (27, .getfield 28, 3), (30, .iload_n 1, 1), (31, .aload_n 0, 1), (32, .getfield 24, 3), (35, .invokevirtual 44, 3), (38, .ifCond .ne 23, 3), (41, .aload_n 0, 1), (42, .getfield 11, 3), (45, .aload_n 0, 1), (46, .getfield 36, 3), (49, .iload_n 1, 1), (50, .iastore, 1), (51, .aload_n 0, 1), (52, .dup, 1), (53, .getfield 36, 3), (56, .iconst 1, 1), (57, .iadd, 1), (58, .putfield 36, 3), (61, .iinc 1 1, 3), (64, .goto (-57), 3), (67, .aload_n 0, 1), (68, .getfield 18, 3), (71, .ldc 50, 2), (73, .invokestatic 51, 3), (76, .aload_n 0, 1), (77, .getfield 18, 3), (80, .iconst 0, 1), (81, .iconst 0, 1), (82, .iastore, 1), (83, .return_, 1)]
set_option maxRecDepth 20000 in
theorem daX3_gather : ∀ x ∈ tbX3_gather, decode cX3_gather x.1 = .ok x.2 := by decide +kernel
theorem dkX3_gather {i pc n : Nat} {ins : Instr} (h : tbX3_gather[i]? = some (pc, ins, n)) : decode cX3_gather pc = .ok (ins, n) := daX3_gather (pc, ins, n) (List.mem_of_getElem? h)
def fX3_gather (S0 : qv_St) : Option qv_St :=
  qv_b (qv_si S0 263 7 0) fun S_1 =>
  qv_j (fun (S_2 : qv_St) =>
    (fJ7_fill_53178 S_2 266 32 1000000).bind fun S_3 =>
    qv_ck 0 32 <| qv_b (qv_si S_3 266 (Int32.toNatClampNeg 0) 0) fun S_4 =>
    some S_4) fun K_1 =>
  qv_lp2 qv_N (fun self_1 (S_5 : qv_St) (x1_1 : Int32) =>
    if (S_5.1 9 2) ≤ x1_1 then
      K_1 S_5
    else
      if 5 ≤ (S_5.1 263 7) then
        K_1 S_5
      else
        (fX6_isDone S_5 31 x1_1).bind fun r_1 =>
        qv_j (fun (S_6 : qv_St) =>
          self_1 S_6 (x1_1 + 1)) fun K_2 =>
        if r_1 = 0 then
          qv_ck (S_5.1 263 7) 5 <| qv_b (qv_si S_5 264 (Int32.toNatClampNeg (S_5.1 263 7)) x1_1) fun S_7 =>
          qv_b (qv_si S_7 263 7 ((S_7.1 263 7) + 1)) fun S_8 =>
          K_2 S_8
        else
          K_2 S_5) S_1 0
set_option maxRecDepth 20000 in
set_option maxHeartbeats 4000000 in
theorem wX3_gather (G : qv_GT) (S0 : qv_St) : ∀ r, fX3_gather S0 = some r → Cn G Lk yX3_gather cX3_gather 2 none 3 [.ref (G.2.2.1 263)] S0 (qe_u r) := by
  refine cn_of (own := RX3) (emb := qe_u) (lv := [(0, .ref (G.2.2.1 263))]) rfl rfl (Nat.le_of_ble_eq_true rfl) rfl (fun X => ?_)
  unfold fX3_gather
  refine qr_aload_n (n := 1) 0 (dkX3_gather (i := 0) rfl) rfl rfl ?_
  refine qr_iconst (n := 2) 0 (dkX3_gather (i := 1) rfl) rfl (by decide) ?_
  refine qr_puti (n := 5) 263 7 (dkX3_gather (i := 2) rfl) rfl lkO_263 rfl gnX3 (Nat.le_of_ble_eq_true rfl) kfX3_36 rfl tyX3_ok nmX3 rfl rfl (fun S_1 => ?_)
  refine qr_iconst (n := 6) 0 (dkX3_gather (i := 3) rfl) rfl (by decide) ?_
  refine qr_istore_n (n := 7) (lv2 := [(0, .ref (G.2.2.1 263)), (1, .int 0)]) [1, 0] (dkX3_gather (i := 4) rfl) rfl rfl (by decide) rfl ?_
  refine qr_j (fun K_1 : qv_St → Option qv_St => ∀ (S_2 : qv_St), VV G Lk X RX3 cX3_gather 2 none 3 qe_u 67 [(0, .ref (G.2.2.1 263))] [] S_2 (K_1 S_2)) (fun S_2 => ?_) (fun K_1 hK_1 => ?_)
  · refine qr_aload_n (n := 68) 0 (dkX3_gather (i := 35) rfl) rfl rfl ?_
    refine qr_geta (n := 71) 263 5 266 (dkX3_gather (i := 36) rfl) rfl lkO_263 rfl gnX3 (Nat.le_of_ble_eq_true rfl) kfX3_18 rfl ?_
    refine qr_ldc (n := 73) 1000000 (dkX3_gather (i := 37) rfl) rfl kcX3_50 ?_
    refine qr_csu (n := 76) [.ref (G.2.2.1 266), .int 1000000] (dkX3_gather (i := 38) rfl) rfl kvX3_51 rfl rfl (Nat.le_of_ble_eq_true rfl) rfl rfl (wJ7_fill_53178 G S_2 266 32 1000000 lkA_266) (fun S_3 => ?_)
    refine qr_aload_n (n := 77) 0 (dkX3_gather (i := 39) rfl) rfl rfl ?_
    refine qr_geta (n := 80) 263 5 266 (dkX3_gather (i := 40) rfl) rfl lkO_263 rfl gnX3 (Nat.le_of_ble_eq_true rfl) kfX3_18 rfl ?_
    refine qr_iconst (n := 81) 0 (dkX3_gather (i := 41) rfl) rfl (by decide) ?_
    refine qr_iconst (n := 82) 0 (dkX3_gather (i := 42) rfl) rfl (by decide) ?_
    refine qr_iast (n := 83) 266 32 (dkX3_gather (i := 43) rfl) rfl lkA_266 (fun S_4 => ?_)
    exact qr_vret (dkX3_gather (i := 44) rfl) rfl rfl
  · refine qr_lp2 (fun (S_5 : qv_St) (x1_1 : Int32) => [(0, .ref (G.2.2.1 263)), (1, .int x1_1)]) (fun (S_5 : qv_St) (x1_1 : Int32) => S_5) (fun self_1 hself_1 S_5 x1_1 => ?_) qv_N S_1 0
    refine qr_iload_n (n := 8) 1 (dkX3_gather (i := 5) rfl) rfl rfl ?_
    refine qr_aload_n (n := 9) 0 (dkX3_gather (i := 6) rfl) rfl rfl ?_
    refine qr_geta (n := 12) 263 0 9 (dkX3_gather (i := 7) rfl) rfl lkO_263 rfl gnX3 (Nat.le_of_ble_eq_true rfl) kfX3_24 rfl ?_
    refine qr_geti (n := 15) 9 2 (dkX3_gather (i := 8) rfl) rfl lkO_9 rfl gnX5 (Nat.le_of_ble_eq_true rfl) kfX3_40 rfl ?_
    refine qr_icmp_ge (t := 67) (n := 18) (dkX3_gather (i := 9) rfl) (by decide) rfl ?_ ?_
    · refine qr_sub [0] rfl ?_
      exact hK_1 S_5
    · refine qr_aload_n (n := 19) 0 (dkX3_gather (i := 10) rfl) rfl rfl ?_
      refine qr_geti (n := 22) 263 7 (dkX3_gather (i := 11) rfl) rfl lkO_263 rfl gnX3 (Nat.le_of_ble_eq_true rfl) kfX3_36 rfl ?_
      refine qr_iconst (n := 23) 5 (dkX3_gather (i := 12) rfl) rfl (by decide) ?_
      refine qr_icmp_ge (t := 67) (n := 26) (dkX3_gather (i := 13) rfl) (by decide) rfl ?_ ?_
      · refine qr_sub [0] rfl ?_
        exact hK_1 S_5
      · refine qr_aload_n (n := 27) 0 (dkX3_gather (i := 14) rfl) rfl rfl ?_
        refine qr_geta (n := 30) 263 1 31 (dkX3_gather (i := 15) rfl) rfl lkO_263 rfl gnX3 (Nat.le_of_ble_eq_true rfl) kfX3_28 rfl ?_
        refine qr_iload_n (n := 31) 1 (dkX3_gather (i := 16) rfl) rfl rfl ?_
        refine qr_aload_n (n := 32) 0 (dkX3_gather (i := 17) rfl) rfl rfl ?_
        refine qr_geta (n := 35) 263 0 9 (dkX3_gather (i := 18) rfl) rfl lkO_263 rfl gnX3 (Nat.le_of_ble_eq_true rfl) kfX3_24 rfl ?_
        refine qr_cvi (n := 38) 31 [.int x1_1, .ref (G.2.2.1 9)] (dkX3_gather (i := 19) rfl) rfl kvX3_44 rfl rfl (Nat.le_of_ble_eq_true rfl) rfl rfl lkO_31 rfl (wX6_isDone G S_5 31 x1_1 isS_31) (fun r_1 => ?_)
        refine qr_j (fun K_2 : qv_St → Option qv_St => ∀ (S_6 : qv_St), VV G Lk X RX3 cX3_gather 2 none 3 qe_u 61 [(0, .ref (G.2.2.1 263)), (1, .int x1_1)] [] S_6 (K_2 S_6)) (fun S_6 => ?_) (fun K_2 hK_2 => ?_)
        · refine qr_iinc (n := 64) (v := 1) (lv2 := [(0, .ref (G.2.2.1 263)), (1, .int (x1_1 + 1))]) 1 [1, 0] (dkX3_gather (i := 33) rfl) rfl rfl (by decide) (by decide) rfl ?_
          refine qr_goto (n := 7) (dkX3_gather (i := 34) rfl) (by decide) ?_
          exact hself_1 S_6 (x1_1 + 1)
        · refine qr_if_ne (t := 61) (n := 41) (dkX3_gather (i := 20) rfl) (by decide) rfl ?_ ?_
          · exact hK_2 S_5
          · refine qr_aload_n (n := 42) 0 (dkX3_gather (i := 21) rfl) rfl rfl ?_
            refine qr_geta (n := 45) 263 3 264 (dkX3_gather (i := 22) rfl) rfl lkO_263 rfl gnX3 (Nat.le_of_ble_eq_true rfl) kfX3_11 rfl ?_
            refine qr_aload_n (n := 46) 0 (dkX3_gather (i := 23) rfl) rfl rfl ?_
            refine qr_geti (n := 49) 263 7 (dkX3_gather (i := 24) rfl) rfl lkO_263 rfl gnX3 (Nat.le_of_ble_eq_true rfl) kfX3_36 rfl ?_
            refine qr_iload_n (n := 50) 1 (dkX3_gather (i := 25) rfl) rfl rfl ?_
            refine qr_iast (n := 51) 264 5 (dkX3_gather (i := 26) rfl) rfl lkA_264 (fun S_7 => ?_)
            refine qr_aload_n (n := 52) 0 (dkX3_gather (i := 27) rfl) rfl rfl ?_
            refine qr_dup (n := 53) (dkX3_gather (i := 28) rfl) rfl rfl ?_
            refine qr_geti (n := 56) 263 7 (dkX3_gather (i := 29) rfl) rfl lkO_263 rfl gnX3 (Nat.le_of_ble_eq_true rfl) kfX3_36 rfl ?_
            refine qr_iconst (n := 57) 1 (dkX3_gather (i := 30) rfl) rfl (by decide) ?_
            refine qr_iadd (n := 58) (dkX3_gather (i := 31) rfl) rfl ?_
            refine qr_puti (n := 61) 263 7 (dkX3_gather (i := 32) rfl) rfl lkO_263 rfl gnX3 (Nat.le_of_ble_eq_true rfl) kfX3_36 rfl tyX3_ok nmX3 rfl rfl (fun S_8 => ?_)
            exact hK_2 S_8
def tbX3_all : List (Nat × Instr × Nat) := [(0, .iconst 1, 1), (1, .aload_n 0, 1), (2, .getfield 36, 3), (5, .ishl, 1), (6, .iconst 1, 1), (7, .isub, 1), (8, .ireturn, 1)]
set_option maxRecDepth 20000 in
theorem daX3_all : ∀ x ∈ tbX3_all, decode cX3_all x.1 = .ok x.2 := by decide +kernel
theorem dkX3_all {i pc n : Nat} {ins : Instr} (h : tbX3_all[i]? = some (pc, ins, n)) : decode cX3_all pc = .ok (ins, n) := daX3_all (pc, ins, n) (List.mem_of_getElem? h)
def fX3_all (S0 : qv_St) : Option Int32 :=
  some ((1 <<< ((S0.1 263 7) &&& 31)) - 1)
set_option maxRecDepth 20000 in
set_option maxHeartbeats 4000000 in
theorem wX3_all (G : qv_GT) (S0 : qv_St) : ∀ r, fX3_all S0 = some r → Cn G Lk yX3_all cX3_all 1 (some .int) 1 [.ref (G.2.2.1 263)] S0 ((qe_i S0) r) := by
  refine cn_of (own := RX3) (emb := (qe_i S0)) (lv := [(0, .ref (G.2.2.1 263))]) rfl rfl (Nat.le_of_ble_eq_true rfl) rfl (fun X => ?_)
  unfold fX3_all
  refine qr_iconst (n := 1) 1 (dkX3_all (i := 0) rfl) rfl (by decide) ?_
  refine qr_aload_n (n := 2) 0 (dkX3_all (i := 1) rfl) rfl rfl ?_
  refine qr_geti (n := 5) 263 7 (dkX3_all (i := 2) rfl) rfl lkO_263 rfl gnX3 (Nat.le_of_ble_eq_true rfl) kfX3_36 rfl ?_
  refine qr_ishl (n := 6) (dkX3_all (i := 3) rfl) rfl ?_
  refine qr_iconst (n := 7) 1 (dkX3_all (i := 4) rfl) rfl (by decide) ?_
  refine qr_isub (n := 8) (dkX3_all (i := 5) rfl) rfl ?_
  exact qr_iret (dkX3_all (i := 6) rfl) rfl rfl
def tbX7_soundAt : List (Nat × Instr × Nat) := [(0, .iload_n 1, 1), (1, .ifCond .lt 10, 3), (4, .iload_n 1, 1), (5, .sipush 1545, 3), (8, .if_icmp .lt 5, 3), (11, .iconst 0, 1), (12, .ireturn, 1), (13, .aload_n 0, 1), (14, .getfield 13, 3), (17, .iload_n 1, 1), (18, .iaload, 1), (19, .ifCond .eq 10, 3), (22, .aload_n 0, 1), (23, .getfield 13, 3), (26, .iload_n 1, 1), (27, .iaload, 1), (28, .ireturn, 1), (29, .aload_n 0, 1), (30, .getfield 28, 3), (33, .getfield 42, 3), (36, .iload_n 1, 1), (37, .iadd, 1), (38, .istore_n 2, 1), (39, .iconst 0, 1), (40, .istore_n 3, 1), (41, .iconst 0, 1), (42, .istore 4, 2), (44, .iconst (-1), 1), (45, .istore 5, 2), (47, .iconst 0, 1), (48, .istore 6, 2), (50, .iload 6, 2), (52, .aload_n 0, 1), (53, .getfield 24, 3), (56, .getfield 47, 3), (59, .if_icmp .ge 73, 3), (62, .aload_n 0, 1), (63, .getfield 32, 3), (66, .iload 6, 2), (68, .aload_n 0, 1), (69, .getfield 20, 3), (72, .iload_n 2, 1), (73, .aload_n 0, 1), (74, .getfield 32, 3), (77, .iload 6, 2), (79, .iload_n 2, 1), (80, .aload_n 0, 1), (81, .getfield 28, 3), (84, .getfield 52, 3), (87, .iload 6, 2), (89, .iaload, 1), (90, .invokevirtual 55, 3), (93, .invokevirtual 61, 3), (96, .istore 7, 2), (98, .iload 7, 2), (100, .iload_n 3, 1), (101, .if_icmp .le 16, 3), (104, .iload_n 3, 1), (105, .istore 4, 2), (107, .iload 7, 2), (109, .istore_n 3, 1), (110, .iload 6, 2), (112, .istore 5, 2), (114, .goto 12, 3), (117, .iload 4, 2), (119, .iload 7, 2), (121, .invokestatic 65, 3), (124, .istore 4, 2), (126, .iinc 6 1, 3), (129, .goto (-79), 3), (132, .aload_n 0, 1), (133, .getfield 32, 3), (136, .aload_n 0, 1), (137, .getfield 28, 3), (140, .getfield 71, 3), (143, .iload_n 1, 1), (144, .iadd, 1), (145, .iload_n 2, 1), (146, .invokevirtual 74, 3), (149, .ifCond .eq 8, 3), (152, .ldc 78, 2), (154, .goto 4, 3), (157, .iconst 0, 1), (158, .istore 6, 2), (160, .aload_n 0, 1), (161, .getfield 13, 3), (164, .iload_n 1, 1), (165, .iload_n 3, 1), (166, .iload 4, 2), (168, .bipush 7, 2), (170, .ishl, 1), (171, .ior, 1), (172, .iload 5, 2), (174, .iconst 1, 1), (175, .iadd, 1), (176, .bipush 14, 2), (178, .ishl, 1), (179, .ior, 1), (180, .iload 6, 2), (182, .ior, 1), (183, .ldc 79, 2), (185, .ior, 1), (186, .iastore, 1), (187, .aload_n 0, 1), (188, .getfield 13, 3), (191, .iload_n 1, 1), (192, .iaload, 1), (193, .ireturn, 1)]
set_option maxRecDepth 20000 in
theorem daX7_soundAt : ∀ x ∈ tbX7_soundAt, decode cX7_soundAt x.1 = .ok x.2 := by decide +kernel
theorem dkX7_soundAt {i pc n : Nat} {ins : Instr} (h : tbX7_soundAt[i]? = some (pc, ins, n)) : decode cX7_soundAt pc = .ok (ins, n) := daX7_soundAt (pc, ins, n) (List.mem_of_getElem? h)
def fX7_soundAt (S0 : qv_St) (x1 : Int32) : Option (qv_St × Int32) :=
  if x1 < 0 then
    some (S0, 0)
  else
    if x1 < 1545 then
      qv_ck x1 1545 <|
      if (S0.1 261 (Int32.toNatClampNeg x1)) = 0 then
        qv_b (((S0.1 31 0) + x1) : Int32) fun x2_1 =>
        qv_j (fun (S_1 : qv_St) (x3_1 : Int32) (x4_1 : Int32) (x5_1 : Int32) =>
          qv_cm (fX0_isRustling S_1 ((S_1.1 31 2) + x1) x2_1) fun S_2 r_1 =>
          qv_j (fun (t_1 : Int32) =>
            qv_ck x1 1545 <| qv_b (qv_si S_2 261 (Int32.toNatClampNeg x1) ((((x3_1 ||| (x4_1 <<< (7 &&& 31))) ||| ((x5_1 + 1) <<< (14 &&& 31))) ||| t_1) ||| 524288)) fun S_3 =>
            qv_ck x1 1545 <|
            some (S_3, (S_3.1 261 (Int32.toNatClampNeg x1)))) fun K_2 =>
          if r_1 = 0 then
            K_2 0
          else
            K_2 262144) fun K_1 =>
        qv_lp5 qv_N (fun self_1 (S_4 : qv_St) (x3_2 : Int32) (x4_2 : Int32) (x5_2 : Int32) (x6_1 : Int32) =>
          if (S_4.1 9 0) ≤ x6_1 then
            K_1 S_4 x3_2 x4_2 x5_2
          else
            qv_ck x6_1 8 <|
            qv_cm (fX0_ageOf S_4 x6_1 x2_1 (S_4.1 32 (Int32.toNatClampNeg x6_1))) fun S_5 r_2 =>
            qv_cm (fX0_heardOf S_5 x6_1 (S_4.1 260 5) x2_1 r_2) fun S_6 r_3 =>
            qv_j (fun (x3_3 : Int32) (x4_3 : Int32) (x5_3 : Int32) =>
              self_1 S_6 x3_3 x4_3 x5_3 (x6_1 + 1)) fun K_3 =>
            if r_3 ≤ x3_2 then
              qv_b ((qv_mx x4_2 r_3) : Int32) fun x4_4 =>
              K_3 x3_2 x4_4 x5_2
            else
              K_3 r_3 x3_2 x6_1) S0 0 0 (-1) 0
      else
        qv_ck x1 1545 <|
        some (S0, (S0.1 261 (Int32.toNatClampNeg x1)))
    else
      some (S0, 0)
set_option maxRecDepth 20000 in
set_option maxHeartbeats 4000000 in
theorem wX7_soundAt (G : qv_GT) (S0 : qv_St) (x1 : Int32) : ∀ r, fX7_soundAt S0 x1 = some r → Cn G Lk yX7_soundAt cX7_soundAt 8 (some .int) 4 [.ref (G.2.2.1 260), .int x1] S0 (qe_m r) := by
  refine cn_of (own := RX7) (emb := qe_m) (lv := [(0, .ref (G.2.2.1 260)), (1, .int x1)]) rfl rfl (Nat.le_of_ble_eq_true rfl) rfl (fun X => ?_)
  unfold fX7_soundAt
  refine qr_iload_n (n := 1) 1 (dkX7_soundAt (i := 0) rfl) rfl rfl ?_
  refine qr_if_lt (t := 11) (n := 4) (dkX7_soundAt (i := 1) rfl) (by decide) rfl ?_ ?_
  · refine qr_iconst (n := 12) 0 (dkX7_soundAt (i := 5) rfl) rfl (by decide) ?_
    exact qr_iret (dkX7_soundAt (i := 6) rfl) rfl rfl
  · refine qr_iload_n (n := 5) 1 (dkX7_soundAt (i := 2) rfl) rfl rfl ?_
    refine qr_sipush (n := 8) 1545 (dkX7_soundAt (i := 3) rfl) rfl (by decide) ?_
    refine qr_icmp_lt (t := 13) (n := 11) (dkX7_soundAt (i := 4) rfl) (by decide) rfl ?_ ?_
    · refine qr_aload_n (n := 14) 0 (dkX7_soundAt (i := 7) rfl) rfl rfl ?_
      refine qr_geta (n := 17) 260 3 261 (dkX7_soundAt (i := 8) rfl) rfl lkO_260 rfl gnX7 (Nat.le_of_ble_eq_true rfl) kfX7_13 rfl ?_
      refine qr_iload_n (n := 18) 1 (dkX7_soundAt (i := 9) rfl) rfl rfl ?_
      refine qr_iald (n := 19) 261 1545 (dkX7_soundAt (i := 10) rfl) rfl lkA_261 ?_
      refine qr_if_eq (t := 29) (n := 22) (dkX7_soundAt (i := 11) rfl) (by decide) rfl ?_ ?_
      · refine qr_aload_n (n := 30) 0 (dkX7_soundAt (i := 17) rfl) rfl rfl ?_
        refine qr_geta (n := 33) 260 1 31 (dkX7_soundAt (i := 18) rfl) rfl lkO_260 rfl gnX7 (Nat.le_of_ble_eq_true rfl) kfX7_28 rfl ?_
        refine qr_geti (n := 36) 31 0 (dkX7_soundAt (i := 19) rfl) rfl lkO_31 rfl gnX6 (Nat.le_of_ble_eq_true rfl) kfX7_42 rfl ?_
        refine qr_iload_n (n := 37) 1 (dkX7_soundAt (i := 20) rfl) rfl rfl ?_
        refine qr_iadd (n := 38) (dkX7_soundAt (i := 21) rfl) rfl ?_
        refine qr_b (α := Int32) ((S0.1 31 0) + x1) (lvf := fun _ => [(0, .ref (G.2.2.1 260)), (1, .int x1)]) (stf := fun z => .int z :: []) (Sf := fun _ => S0) (fun x2_1 => ?_)
        refine qr_istore_n (n := 39) (lv2 := [(0, .ref (G.2.2.1 260)), (1, .int x1), (2, .int x2_1)]) [1, 2, 0] (dkX7_soundAt (i := 22) rfl) rfl rfl (by decide) rfl ?_
        refine qr_iconst (n := 40) 0 (dkX7_soundAt (i := 23) rfl) rfl (by decide) ?_
        refine qr_istore_n (n := 41) (lv2 := [(0, .ref (G.2.2.1 260)), (1, .int x1), (2, .int x2_1), (3, .int 0)]) [1, 2, 3, 0] (dkX7_soundAt (i := 24) rfl) rfl rfl (by decide) rfl ?_
        refine qr_iconst (n := 42) 0 (dkX7_soundAt (i := 25) rfl) rfl (by decide) ?_
        refine qr_istore (n := 44) (lv2 := [(0, .ref (G.2.2.1 260)), (1, .int x1), (2, .int x2_1), (3, .int 0), (4, .int 0)]) [1, 2, 3, 4, 0] (dkX7_soundAt (i := 26) rfl) rfl (by decide) rfl ?_
        refine qr_iconst (n := 45) (-1) (dkX7_soundAt (i := 27) rfl) rfl (by decide) ?_
        refine qr_istore (n := 47) (lv2 := [(0, .ref (G.2.2.1 260)), (1, .int x1), (2, .int x2_1), (3, .int 0), (4, .int 0), (5, .int (-1))]) [1, 2, 3, 4, 5, 0] (dkX7_soundAt (i := 28) rfl) rfl (by decide) rfl ?_
        refine qr_iconst (n := 48) 0 (dkX7_soundAt (i := 29) rfl) rfl (by decide) ?_
        refine qr_istore (n := 50) (lv2 := [(0, .ref (G.2.2.1 260)), (1, .int x1), (2, .int x2_1), (3, .int 0), (4, .int 0), (5, .int (-1)), (6, .int 0)]) [1, 2, 3, 4, 5, 6, 0] (dkX7_soundAt (i := 30) rfl) rfl (by decide) rfl ?_
        refine qr_j (fun K_1 : qv_St → Int32 → Int32 → Int32 → Option (qv_St × Int32) => ∀ (S_1 : qv_St) (x3_1 : Int32) (x4_1 : Int32) (x5_1 : Int32), VV G Lk X RX7 cX7_soundAt 8 (some .int) 4 qe_m 132 [(0, .ref (G.2.2.1 260)), (1, .int x1), (2, .int x2_1), (3, .int x3_1), (4, .int x4_1), (5, .int x5_1)] [] S_1 (K_1 S_1 x3_1 x4_1 x5_1)) (fun S_1 x3_1 x4_1 x5_1 => ?_) (fun K_1 hK_1 => ?_)
        · refine qr_aload_n (n := 133) 0 (dkX7_soundAt (i := 70) rfl) rfl rfl ?_
          refine qr_geta (n := 136) 260 2 254 (dkX7_soundAt (i := 71) rfl) rfl lkO_260 rfl gnX7 (Nat.le_of_ble_eq_true rfl) kfX7_32 rfl ?_
          refine qr_aload_n (n := 137) 0 (dkX7_soundAt (i := 72) rfl) rfl rfl ?_
          refine qr_geta (n := 140) 260 1 31 (dkX7_soundAt (i := 73) rfl) rfl lkO_260 rfl gnX7 (Nat.le_of_ble_eq_true rfl) kfX7_28 rfl ?_
          refine qr_geti (n := 143) 31 2 (dkX7_soundAt (i := 74) rfl) rfl lkO_31 rfl gnX6 (Nat.le_of_ble_eq_true rfl) kfX7_71 rfl ?_
          refine qr_iload_n (n := 144) 1 (dkX7_soundAt (i := 75) rfl) rfl rfl ?_
          refine qr_iadd (n := 145) (dkX7_soundAt (i := 76) rfl) rfl ?_
          refine qr_iload_n (n := 146) 2 (dkX7_soundAt (i := 77) rfl) rfl rfl ?_
          refine qr_cvm (n := 149) 254 [.int ((S_1.1 31 2) + x1), .int x2_1] (dkX7_soundAt (i := 78) rfl) rfl kvX7_74 rfl rfl (Nat.le_of_ble_eq_true rfl) rfl rfl lkO_254 rfl (wX0_isRustling G S_1 ((S_1.1 31 2) + x1) x2_1) (fun S_2 r_1 => ?_)
          refine qr_j (fun K_2 : Int32 → Option (qv_St × Int32) => ∀ (t_1 : Int32), VV G Lk X RX7 cX7_soundAt 8 (some .int) 4 qe_m 158 [(0, .ref (G.2.2.1 260)), (1, .int x1), (3, .int x3_1), (4, .int x4_1), (5, .int x5_1)] [.int t_1] S_2 (K_2 t_1)) (fun t_1 => ?_) (fun K_2 hK_2 => ?_)
          · refine qr_istore (n := 160) (lv2 := [(0, .ref (G.2.2.1 260)), (1, .int x1), (3, .int x3_1), (4, .int x4_1), (5, .int x5_1), (6, .int t_1)]) [1, 2, 3, 4, 5, 0] (dkX7_soundAt (i := 83) rfl) rfl (by decide) rfl ?_
            refine qr_aload_n (n := 161) 0 (dkX7_soundAt (i := 84) rfl) rfl rfl ?_
            refine qr_geta (n := 164) 260 3 261 (dkX7_soundAt (i := 85) rfl) rfl lkO_260 rfl gnX7 (Nat.le_of_ble_eq_true rfl) kfX7_13 rfl ?_
            refine qr_iload_n (n := 165) 1 (dkX7_soundAt (i := 86) rfl) rfl rfl ?_
            refine qr_iload_n (n := 166) 2 (dkX7_soundAt (i := 87) rfl) rfl rfl ?_
            refine qr_iload (n := 168) 3 (dkX7_soundAt (i := 88) rfl) rfl rfl ?_
            refine qr_bipush (n := 170) 7 (dkX7_soundAt (i := 89) rfl) rfl (by decide) ?_
            refine qr_ishl (n := 171) (dkX7_soundAt (i := 90) rfl) rfl ?_
            refine qr_ior (n := 172) (dkX7_soundAt (i := 91) rfl) rfl ?_
            refine qr_iload (n := 174) 4 (dkX7_soundAt (i := 92) rfl) rfl rfl ?_
            refine qr_iconst (n := 175) 1 (dkX7_soundAt (i := 93) rfl) rfl (by decide) ?_
            refine qr_iadd (n := 176) (dkX7_soundAt (i := 94) rfl) rfl ?_
            refine qr_bipush (n := 178) 14 (dkX7_soundAt (i := 95) rfl) rfl (by decide) ?_
            refine qr_ishl (n := 179) (dkX7_soundAt (i := 96) rfl) rfl ?_
            refine qr_ior (n := 180) (dkX7_soundAt (i := 97) rfl) rfl ?_
            refine qr_iload (n := 182) 5 (dkX7_soundAt (i := 98) rfl) rfl rfl ?_
            refine qr_ior (n := 183) (dkX7_soundAt (i := 99) rfl) rfl ?_
            refine qr_ldc (n := 185) 524288 (dkX7_soundAt (i := 100) rfl) rfl kcX7_79 ?_
            refine qr_ior (n := 186) (dkX7_soundAt (i := 101) rfl) rfl ?_
            refine qr_iast (n := 187) 261 1545 (dkX7_soundAt (i := 102) rfl) rfl lkA_261 (fun S_3 => ?_)
            refine qr_aload_n (n := 188) 0 (dkX7_soundAt (i := 103) rfl) rfl rfl ?_
            refine qr_geta (n := 191) 260 3 261 (dkX7_soundAt (i := 104) rfl) rfl lkO_260 rfl gnX7 (Nat.le_of_ble_eq_true rfl) kfX7_13 rfl ?_
            refine qr_iload_n (n := 192) 1 (dkX7_soundAt (i := 105) rfl) rfl rfl ?_
            refine qr_iald (n := 193) 261 1545 (dkX7_soundAt (i := 106) rfl) rfl lkA_261 ?_
            exact qr_iret (dkX7_soundAt (i := 107) rfl) rfl rfl
          · refine qr_if_eq (t := 157) (n := 152) (dkX7_soundAt (i := 79) rfl) (by decide) rfl ?_ ?_
            · refine qr_iconst (n := 158) 0 (dkX7_soundAt (i := 82) rfl) rfl (by decide) ?_
              refine qr_sub [0, 1, 3, 4, 5] rfl ?_
              exact hK_2 0
            · refine qr_ldc (n := 154) 262144 (dkX7_soundAt (i := 80) rfl) rfl kcX7_78 ?_
              refine qr_goto (n := 158) (dkX7_soundAt (i := 81) rfl) (by decide) ?_
              refine qr_sub [0, 1, 3, 4, 5] rfl ?_
              exact hK_2 262144
        · refine qr_lp5 (fun (S_4 : qv_St) (x3_2 : Int32) (x4_2 : Int32) (x5_2 : Int32) (x6_1 : Int32) => [(0, .ref (G.2.2.1 260)), (1, .int x1), (2, .int x2_1), (3, .int x3_2), (4, .int x4_2), (5, .int x5_2), (6, .int x6_1)]) (fun (S_4 : qv_St) (x3_2 : Int32) (x4_2 : Int32) (x5_2 : Int32) (x6_1 : Int32) => S_4) (fun self_1 hself_1 S_4 x3_2 x4_2 x5_2 x6_1 => ?_) qv_N S0 0 0 (-1) 0
          refine qr_iload (n := 52) 6 (dkX7_soundAt (i := 31) rfl) rfl rfl ?_
          refine qr_aload_n (n := 53) 0 (dkX7_soundAt (i := 32) rfl) rfl rfl ?_
          refine qr_geta (n := 56) 260 0 9 (dkX7_soundAt (i := 33) rfl) rfl lkO_260 rfl gnX7 (Nat.le_of_ble_eq_true rfl) kfX7_24 rfl ?_
          refine qr_geti (n := 59) 9 0 (dkX7_soundAt (i := 34) rfl) rfl lkO_9 rfl gnX5 (Nat.le_of_ble_eq_true rfl) kfX7_47 rfl ?_
          refine qr_icmp_ge (t := 132) (n := 62) (dkX7_soundAt (i := 35) rfl) (by decide) rfl ?_ ?_
          · refine qr_sub [0, 1, 2, 3, 4, 5] rfl ?_
            exact hK_1 S_4 x3_2 x4_2 x5_2
          · refine qr_aload_n (n := 63) 0 (dkX7_soundAt (i := 36) rfl) rfl rfl ?_
            refine qr_geta (n := 66) 260 2 254 (dkX7_soundAt (i := 37) rfl) rfl lkO_260 rfl gnX7 (Nat.le_of_ble_eq_true rfl) kfX7_32 rfl ?_
            refine qr_iload (n := 68) 6 (dkX7_soundAt (i := 38) rfl) rfl rfl ?_
            refine qr_aload_n (n := 69) 0 (dkX7_soundAt (i := 39) rfl) rfl rfl ?_
            refine qr_geti (n := 72) 260 5 (dkX7_soundAt (i := 40) rfl) rfl lkO_260 rfl gnX7 (Nat.le_of_ble_eq_true rfl) kfX7_20 rfl ?_
            refine qr_iload_n (n := 73) 2 (dkX7_soundAt (i := 41) rfl) rfl rfl ?_
            refine qr_aload_n (n := 74) 0 (dkX7_soundAt (i := 42) rfl) rfl rfl ?_
            refine qr_geta (n := 77) 260 2 254 (dkX7_soundAt (i := 43) rfl) rfl lkO_260 rfl gnX7 (Nat.le_of_ble_eq_true rfl) kfX7_32 rfl ?_
            refine qr_iload (n := 79) 6 (dkX7_soundAt (i := 44) rfl) rfl rfl ?_
            refine qr_iload_n (n := 80) 2 (dkX7_soundAt (i := 45) rfl) rfl rfl ?_
            refine qr_aload_n (n := 81) 0 (dkX7_soundAt (i := 46) rfl) rfl rfl ?_
            refine qr_geta (n := 84) 260 1 31 (dkX7_soundAt (i := 47) rfl) rfl lkO_260 rfl gnX7 (Nat.le_of_ble_eq_true rfl) kfX7_28 rfl ?_
            refine qr_geta (n := 87) 31 4 32 (dkX7_soundAt (i := 48) rfl) rfl lkO_31 rfl gnX6 (Nat.le_of_ble_eq_true rfl) kfX7_52 rfl ?_
            refine qr_iload (n := 89) 6 (dkX7_soundAt (i := 49) rfl) rfl rfl ?_
            refine qr_iald (n := 90) 32 8 (dkX7_soundAt (i := 50) rfl) rfl lkA_32 ?_
            refine qr_cvm (n := 93) 254 [.int x6_1, .int x2_1, .int (S_4.1 32 (Int32.toNatClampNeg x6_1))] (dkX7_soundAt (i := 51) rfl) rfl kvX7_55 rfl rfl (Nat.le_of_ble_eq_true rfl) rfl rfl lkO_254 rfl (wX0_ageOf G S_4 x6_1 x2_1 (S_4.1 32 (Int32.toNatClampNeg x6_1))) (fun S_5 r_2 => ?_)
            refine qr_cvm (n := 96) 254 [.int x6_1, .int (S_4.1 260 5), .int x2_1, .int r_2] (dkX7_soundAt (i := 52) rfl) rfl kvX7_61 rfl rfl (Nat.le_of_ble_eq_true rfl) rfl rfl lkO_254 rfl (wX0_heardOf G S_5 x6_1 (S_4.1 260 5) x2_1 r_2) (fun S_6 r_3 => ?_)
            refine qr_istore (n := 98) (lv2 := [(0, .ref (G.2.2.1 260)), (1, .int x1), (2, .int x2_1), (3, .int x3_2), (4, .int x4_2), (5, .int x5_2), (6, .int x6_1), (7, .int r_3)]) [1, 2, 3, 4, 5, 6, 7, 0] (dkX7_soundAt (i := 53) rfl) rfl (by decide) rfl ?_
            refine qr_iload (n := 100) 7 (dkX7_soundAt (i := 54) rfl) rfl rfl ?_
            refine qr_iload_n (n := 101) 3 (dkX7_soundAt (i := 55) rfl) rfl rfl ?_
            refine qr_j (fun K_3 : Int32 → Int32 → Int32 → Option (qv_St × Int32) => ∀ (x3_3 : Int32) (x4_3 : Int32) (x5_3 : Int32), VV G Lk X RX7 cX7_soundAt 8 (some .int) 4 qe_m 126 [(0, .ref (G.2.2.1 260)), (1, .int x1), (2, .int x2_1), (3, .int x3_3), (4, .int x4_3), (5, .int x5_3), (6, .int x6_1)] [] S_6 (K_3 x3_3 x4_3 x5_3)) (fun x3_3 x4_3 x5_3 => ?_) (fun K_3 hK_3 => ?_)
            · refine qr_iinc (n := 129) (v := 1) (lv2 := [(0, .ref (G.2.2.1 260)), (1, .int x1), (2, .int x2_1), (3, .int x3_3), (4, .int x4_3), (5, .int x5_3), (6, .int (x6_1 + 1))]) 6 [1, 2, 3, 4, 5, 6, 0] (dkX7_soundAt (i := 68) rfl) rfl rfl (by decide) (by decide) rfl ?_
              refine qr_goto (n := 50) (dkX7_soundAt (i := 69) rfl) (by decide) ?_
              exact hself_1 S_6 x3_3 x4_3 x5_3 (x6_1 + 1)
            · refine qr_icmp_le (t := 117) (n := 104) (dkX7_soundAt (i := 56) rfl) (by decide) rfl ?_ ?_
              · refine qr_iload (n := 119) 4 (dkX7_soundAt (i := 64) rfl) rfl rfl ?_
                refine qr_iload (n := 121) 7 (dkX7_soundAt (i := 65) rfl) rfl rfl ?_
                refine qr_max (n := 124) (dkX7_soundAt (i := 66) rfl) rfl kmX7_65 kmhmax1 kmh2 kmhmax3 rfl (Nat.le_of_ble_eq_true rfl) ?_
                refine qr_b (α := Int32) (qv_mx x4_2 r_3) (lvf := fun _ => [(0, .ref (G.2.2.1 260)), (1, .int x1), (2, .int x2_1), (3, .int x3_2), (4, .int x4_2), (5, .int x5_2), (6, .int x6_1), (7, .int r_3)]) (stf := fun z => .int z :: []) (Sf := fun _ => S_6) (fun x4_4 => ?_)
                refine qr_istore (n := 126) (lv2 := [(0, .ref (G.2.2.1 260)), (1, .int x1), (2, .int x2_1), (3, .int x3_2), (4, .int x4_4), (5, .int x5_2), (6, .int x6_1), (7, .int r_3)]) [1, 2, 3, 4, 0, 5, 6, 7] (dkX7_soundAt (i := 67) rfl) rfl (by decide) rfl ?_
                refine qr_sub [0, 1, 2, 3, 4, 5, 6] rfl ?_
                exact hK_3 x3_2 x4_4 x5_2
              · refine qr_iload_n (n := 105) 3 (dkX7_soundAt (i := 57) rfl) rfl rfl ?_
                refine qr_istore (n := 107) (lv2 := [(0, .ref (G.2.2.1 260)), (1, .int x1), (2, .int x2_1), (3, .int x3_2), (4, .int x3_2), (5, .int x5_2), (6, .int x6_1), (7, .int r_3)]) [1, 2, 3, 4, 0, 5, 6, 7] (dkX7_soundAt (i := 58) rfl) rfl (by decide) rfl ?_
                refine qr_iload (n := 109) 7 (dkX7_soundAt (i := 59) rfl) rfl rfl ?_
                refine qr_istore_n (n := 110) (lv2 := [(0, .ref (G.2.2.1 260)), (1, .int x1), (2, .int x2_1), (3, .int r_3), (4, .int x3_2), (5, .int x5_2), (6, .int x6_1), (7, .int r_3)]) [1, 2, 3, 0, 4, 5, 6, 7] (dkX7_soundAt (i := 60) rfl) rfl rfl (by decide) rfl ?_
                refine qr_iload (n := 112) 6 (dkX7_soundAt (i := 61) rfl) rfl rfl ?_
                refine qr_istore (n := 114) (lv2 := [(0, .ref (G.2.2.1 260)), (1, .int x1), (2, .int x2_1), (3, .int r_3), (4, .int x3_2), (5, .int x6_1), (6, .int x6_1), (7, .int r_3)]) [1, 2, 3, 4, 5, 0, 6, 7] (dkX7_soundAt (i := 62) rfl) rfl (by decide) rfl ?_
                refine qr_goto (n := 126) (dkX7_soundAt (i := 63) rfl) (by decide) ?_
                refine qr_sub [0, 1, 2, 3, 4, 5, 6] rfl ?_
                exact hK_3 r_3 x3_2 x6_1
      · refine qr_aload_n (n := 23) 0 (dkX7_soundAt (i := 12) rfl) rfl rfl ?_
        refine qr_geta (n := 26) 260 3 261 (dkX7_soundAt (i := 13) rfl) rfl lkO_260 rfl gnX7 (Nat.le_of_ble_eq_true rfl) kfX7_13 rfl ?_
        refine qr_iload_n (n := 27) 1 (dkX7_soundAt (i := 14) rfl) rfl rfl ?_
        refine qr_iald (n := 28) 261 1545 (dkX7_soundAt (i := 15) rfl) rfl lkA_261 ?_
        exact qr_iret (dkX7_soundAt (i := 16) rfl) rfl rfl
    · refine qr_iconst (n := 12) 0 (dkX7_soundAt (i := 5) rfl) rfl (by decide) ?_
      exact qr_iret (dkX7_soundAt (i := 6) rfl) rfl rfl
def tbX7_leaderOf : List (Nat × Instr × Nat) := [(0, .iload_n 0, 1), (1, .bipush 14, 2), (3, .ishr, 1), (4, .bipush 15, 2), (6, .iand, 1), (7, .iconst 1, 1), (8, .isub, 1), (9, .ireturn, 1)]
set_option maxRecDepth 20000 in
theorem daX7_leaderOf : ∀ x ∈ tbX7_leaderOf, decode cX7_leaderOf x.1 = .ok x.2 := by decide +kernel
theorem dkX7_leaderOf {i pc n : Nat} {ins : Instr} (h : tbX7_leaderOf[i]? = some (pc, ins, n)) : decode cX7_leaderOf pc = .ok (ins, n) := daX7_leaderOf (pc, ins, n) (List.mem_of_getElem? h)
def fX7_leaderOf (x0 : Int32) : Option Int32 :=
  some (((x0 >>> (14 &&& 31)) &&& 15) - 1)
set_option maxRecDepth 20000 in
set_option maxHeartbeats 4000000 in
theorem wX7_leaderOf (G : qv_GT) (S0 : qv_St) (x0 : Int32) : ∀ r, fX7_leaderOf x0 = some r → Cn G Lk yX7_leaderOf cX7_leaderOf 1 (some .int) 1 [.int x0] S0 ((qe_i S0) r) := by
  refine cn_of (own := RX7) (emb := (qe_i S0)) (lv := [(0, .int x0)]) rfl rfl (Nat.le_of_ble_eq_true rfl) rfl (fun X => ?_)
  unfold fX7_leaderOf
  refine qr_iload_n (n := 1) 0 (dkX7_leaderOf (i := 0) rfl) rfl rfl ?_
  refine qr_bipush (n := 3) 14 (dkX7_leaderOf (i := 1) rfl) rfl (by decide) ?_
  refine qr_ishr (n := 4) (dkX7_leaderOf (i := 2) rfl) rfl ?_
  refine qr_bipush (n := 6) 15 (dkX7_leaderOf (i := 3) rfl) rfl (by decide) ?_
  refine qr_iand (n := 7) (dkX7_leaderOf (i := 4) rfl) rfl ?_
  refine qr_iconst (n := 8) 1 (dkX7_leaderOf (i := 5) rfl) rfl (by decide) ?_
  refine qr_isub (n := 9) (dkX7_leaderOf (i := 6) rfl) rfl ?_
  exact qr_iret (dkX7_leaderOf (i := 7) rfl) rfl rfl
def tbX7_rustlingOf : List (Nat × Instr × Nat) := [(0, .iload_n 0, 1), (1, .ldc 78, 2), (3, .iand, 1), (4, .ifCond .eq 8, 3), (7, .bipush 50, 2), (9, .goto 4, 3), (12, .iconst 0, 1), (13, .ireturn, 1)]
set_option maxRecDepth 20000 in
theorem daX7_rustlingOf : ∀ x ∈ tbX7_rustlingOf, decode cX7_rustlingOf x.1 = .ok x.2 := by decide +kernel
theorem dkX7_rustlingOf {i pc n : Nat} {ins : Instr} (h : tbX7_rustlingOf[i]? = some (pc, ins, n)) : decode cX7_rustlingOf pc = .ok (ins, n) := daX7_rustlingOf (pc, ins, n) (List.mem_of_getElem? h)
def fX7_rustlingOf (x0 : Int32) : Option Int32 :=
  if (x0 &&& 262144) = 0 then
    some 0
  else
    some 50
set_option maxRecDepth 20000 in
set_option maxHeartbeats 4000000 in
theorem wX7_rustlingOf (G : qv_GT) (S0 : qv_St) (x0 : Int32) : ∀ r, fX7_rustlingOf x0 = some r → Cn G Lk yX7_rustlingOf cX7_rustlingOf 1 (some .int) 1 [.int x0] S0 ((qe_i S0) r) := by
  refine cn_of (own := RX7) (emb := (qe_i S0)) (lv := [(0, .int x0)]) rfl rfl (Nat.le_of_ble_eq_true rfl) rfl (fun X => ?_)
  unfold fX7_rustlingOf
  refine qr_iload_n (n := 1) 0 (dkX7_rustlingOf (i := 0) rfl) rfl rfl ?_
  refine qr_ldc (n := 3) 262144 (dkX7_rustlingOf (i := 1) rfl) rfl kcX7_78 ?_
  refine qr_iand (n := 4) (dkX7_rustlingOf (i := 2) rfl) rfl ?_
  refine qr_if_eq (t := 12) (n := 7) (dkX7_rustlingOf (i := 3) rfl) (by decide) rfl ?_ ?_
  · refine qr_iconst (n := 13) 0 (dkX7_rustlingOf (i := 6) rfl) rfl (by decide) ?_
    exact qr_iret (dkX7_rustlingOf (i := 7) rfl) rfl rfl
  · refine qr_bipush (n := 9) 50 (dkX7_rustlingOf (i := 4) rfl) rfl (by decide) ?_
    refine qr_goto (n := 13) (dkX7_rustlingOf (i := 5) rfl) (by decide) ?_
    exact qr_iret (dkX7_rustlingOf (i := 7) rfl) rfl rfl
def tbX7_topOf : List (Nat × Instr × Nat) := [(0, .iload_n 0, 1), (1, .bipush 127, 2), (3, .iand, 1), (4, .ireturn, 1)]
set_option maxRecDepth 20000 in
theorem daX7_topOf : ∀ x ∈ tbX7_topOf, decode cX7_topOf x.1 = .ok x.2 := by decide +kernel
theorem dkX7_topOf {i pc n : Nat} {ins : Instr} (h : tbX7_topOf[i]? = some (pc, ins, n)) : decode cX7_topOf pc = .ok (ins, n) := daX7_topOf (pc, ins, n) (List.mem_of_getElem? h)
def fX7_topOf (x0 : Int32) : Option Int32 :=
  some (x0 &&& 127)
set_option maxRecDepth 20000 in
set_option maxHeartbeats 4000000 in
theorem wX7_topOf (G : qv_GT) (S0 : qv_St) (x0 : Int32) : ∀ r, fX7_topOf x0 = some r → Cn G Lk yX7_topOf cX7_topOf 1 (some .int) 1 [.int x0] S0 ((qe_i S0) r) := by
  refine cn_of (own := RX7) (emb := (qe_i S0)) (lv := [(0, .int x0)]) rfl rfl (Nat.le_of_ble_eq_true rfl) rfl (fun X => ?_)
  unfold fX7_topOf
  refine qr_iload_n (n := 1) 0 (dkX7_topOf (i := 0) rfl) rfl rfl ?_
  refine qr_bipush (n := 3) 127 (dkX7_topOf (i := 1) rfl) rfl (by decide) ?_
  refine qr_iand (n := 4) (dkX7_topOf (i := 2) rfl) rfl ?_
  exact qr_iret (dkX7_topOf (i := 3) rfl) rfl rfl
def tbX7_noiseWithout : List (Nat × Instr × Nat) := [(0, .iload_n 0, 1), (1, .ifCond .lt 15, 3), (4, .iload_n 0, 1), (5, .iload_n 1, 1), (6, .invokestatic 80, 3), (9, .if_icmp .ne 7, 3), (12, .iconst 1, 1), (13, .goto 4, 3), (16, .iconst 0, 1), (17, .istore_n 2, 1), (18, .iload_n 1, 1), (19, .invokestatic 84, 3), (22, .iload_n 2, 1), (23, .ifCond .eq 13, 3), (26, .iload_n 1, 1), (27, .bipush 7, 2), (29, .ishr, 1), (30, .bipush 127, 2), (32, .iand, 1), (33, .goto 7, 3), (36, .iload_n 1, 1), (37, .invokestatic 87, 3), (40, .invokestatic 65, 3), (43, .ireturn, 1)]
set_option maxRecDepth 20000 in
theorem daX7_noiseWithout : ∀ x ∈ tbX7_noiseWithout, decode cX7_noiseWithout x.1 = .ok x.2 := by decide +kernel
theorem dkX7_noiseWithout {i pc n : Nat} {ins : Instr} (h : tbX7_noiseWithout[i]? = some (pc, ins, n)) : decode cX7_noiseWithout pc = .ok (ins, n) := daX7_noiseWithout (pc, ins, n) (List.mem_of_getElem? h)
def fX7_noiseWithout (x0 : Int32) (x1 : Int32) : Option Int32 :=
  qv_j (fun (t_1 : Int32) =>
    (fX7_rustlingOf x1).bind fun r_1 =>
    qv_j (fun (t_2 : Int32) =>
      some (qv_mx r_1 t_2)) fun K_2 =>
    if t_1 = 0 then
      (fX7_topOf x1).bind fun r_2 =>
      K_2 r_2
    else
      K_2 ((x1 >>> (7 &&& 31)) &&& 127)) fun K_1 =>
  qv_j (
    K_1 0) fun K_3 =>
  if x0 < 0 then
    K_3
  else
    (fX7_leaderOf x1).bind fun r_3 =>
    if x0 = r_3 then
      K_1 1
    else
      K_3
set_option maxRecDepth 20000 in
set_option maxHeartbeats 4000000 in
theorem wX7_noiseWithout (G : qv_GT) (S0 : qv_St) (x0 : Int32) (x1 : Int32) : ∀ r, fX7_noiseWithout x0 x1 = some r → Cn G Lk yX7_noiseWithout cX7_noiseWithout 3 (some .int) 2 [.int x0, .int x1] S0 ((qe_i S0) r) := by
  refine cn_of (own := RX7) (emb := (qe_i S0)) (lv := [(0, .int x0), (1, .int x1)]) rfl rfl (Nat.le_of_ble_eq_true rfl) rfl (fun X => ?_)
  unfold fX7_noiseWithout
  refine qr_iload_n (n := 1) 0 (dkX7_noiseWithout (i := 0) rfl) rfl rfl ?_
  refine qr_j (fun K_1 : Int32 → Option Int32 => ∀ (t_1 : Int32), VV G Lk X RX7 cX7_noiseWithout 3 (some .int) 2 (qe_i S0) 17 [(1, .int x1)] [.int t_1] S0 (K_1 t_1)) (fun t_1 => ?_) (fun K_1 hK_1 => ?_)
  · refine qr_istore_n (n := 18) (lv2 := [(1, .int x1), (2, .int t_1)]) [1, 0] (dkX7_noiseWithout (i := 9) rfl) rfl rfl (by decide) rfl ?_
    refine qr_iload_n (n := 19) 0 (dkX7_noiseWithout (i := 10) rfl) rfl rfl ?_
    refine qr_csi (n := 22) [.int x1] (dkX7_noiseWithout (i := 11) rfl) rfl kvX7_84 rfl rfl (Nat.le_of_ble_eq_true rfl) rfl rfl (wX7_rustlingOf G S0 x1) (fun r_1 => ?_)
    refine qr_iload_n (n := 23) 1 (dkX7_noiseWithout (i := 12) rfl) rfl rfl ?_
    refine qr_j (fun K_2 : Int32 → Option Int32 => ∀ (t_2 : Int32), VV G Lk X RX7 cX7_noiseWithout 3 (some .int) 2 (qe_i S0) 40 [] [.int t_2, .int r_1] S0 (K_2 t_2)) (fun t_2 => ?_) (fun K_2 hK_2 => ?_)
    · refine qr_max (n := 43) (dkX7_noiseWithout (i := 22) rfl) rfl kmX7_65 kmhmax1 kmh2 kmhmax3 rfl (Nat.le_of_ble_eq_true rfl) ?_
      exact qr_iret (dkX7_noiseWithout (i := 23) rfl) rfl rfl
    · refine qr_if_eq (t := 36) (n := 26) (dkX7_noiseWithout (i := 13) rfl) (by decide) rfl ?_ ?_
      · refine qr_iload_n (n := 37) 0 (dkX7_noiseWithout (i := 20) rfl) rfl rfl ?_
        refine qr_csi (n := 40) [.int x1] (dkX7_noiseWithout (i := 21) rfl) rfl kvX7_87 rfl rfl (Nat.le_of_ble_eq_true rfl) rfl rfl (wX7_topOf G S0 x1) (fun r_2 => ?_)
        refine qr_sub [] rfl ?_
        exact hK_2 r_2
      · refine qr_iload_n (n := 27) 0 (dkX7_noiseWithout (i := 14) rfl) rfl rfl ?_
        refine qr_bipush (n := 29) 7 (dkX7_noiseWithout (i := 15) rfl) rfl (by decide) ?_
        refine qr_ishr (n := 30) (dkX7_noiseWithout (i := 16) rfl) rfl ?_
        refine qr_bipush (n := 32) 127 (dkX7_noiseWithout (i := 17) rfl) rfl (by decide) ?_
        refine qr_iand (n := 33) (dkX7_noiseWithout (i := 18) rfl) rfl ?_
        refine qr_goto (n := 40) (dkX7_noiseWithout (i := 19) rfl) (by decide) ?_
        refine qr_sub [] rfl ?_
        exact hK_2 ((x1 >>> (7 &&& 31)) &&& 127)
  · refine qr_j (fun K_3 : Option Int32 => VV G Lk X RX7 cX7_noiseWithout 3 (some .int) 2 (qe_i S0) 16 [(1, .int x1)] [] S0 (K_3)) (?_) (fun K_3 hK_3 => ?_)
    · refine qr_iconst (n := 17) 0 (dkX7_noiseWithout (i := 8) rfl) rfl (by decide) ?_
      exact hK_1 0
    · refine qr_if_lt (t := 16) (n := 4) (dkX7_noiseWithout (i := 1) rfl) (by decide) rfl ?_ ?_
      · refine qr_sub [1] rfl ?_
        exact hK_3
      · refine qr_iload_n (n := 5) 0 (dkX7_noiseWithout (i := 2) rfl) rfl rfl ?_
        refine qr_iload_n (n := 6) 1 (dkX7_noiseWithout (i := 3) rfl) rfl rfl ?_
        refine qr_csi (n := 9) [.int x1] (dkX7_noiseWithout (i := 4) rfl) rfl kvX7_80 rfl rfl (Nat.le_of_ble_eq_true rfl) rfl rfl (wX7_leaderOf G S0 x1) (fun r_3 => ?_)
        refine qr_icmp_ne (t := 16) (n := 12) (dkX7_noiseWithout (i := 5) rfl) (by decide) rfl ?_ ?_
        · refine qr_sub [1] rfl ?_
          exact hK_3
        · refine qr_iconst (n := 13) 1 (dkX7_noiseWithout (i := 6) rfl) rfl (by decide) ?_
          refine qr_goto (n := 17) (dkX7_noiseWithout (i := 7) rfl) (by decide) ?_
          refine qr_sub [1] rfl ?_
          exact hK_1 1
def tbX7_firstUnclear : List (Nat × Instr × Nat) := [(0, .iconst 0, 1), (1, .istore 4, 2), (3, .iload 4, 2), (5, .aload_n 0, 1), (6, .getfield 24, 3), (9, .getfield 99, 3), (12, .iload_n 1, 1), (13, .iaload, 1), (14, .if_icmp .ge 67, 3), (17, .iload_n 2, 1), (18, .iload 4, 2), (20, .iadd, 1), (21, .istore 5, 2), (23, .iload 5, 2), (25, .sipush 300, 3), (28, .if_icmp .ge 7, 3), (31, .iload_n 3, 1), (32, .goto 4, 3), (35, .iconst (-1), 1), (36, .aload_n 0, 1), (37, .iload 5, 2), (39, .invokevirtual 90, 3), (42, .invokestatic 93, 3), (45, .istore 6, 2), (47, .iload 6, 2), (49, .aload_n 0, 1), (50, .getfield 32, 3), (53, .iload_n 1, 1), (54, .iload 4, 2), (56, .aload_n 0, 1), (57, .getfield 28, 3), (60, .getfield 42, 3), (63, .iload 5, 2), (65, .iadd, 1), (66, .invokevirtual 102, 3), (69, .if_icmp .le 6, 3), (72, .iload 4, 2), (74, .ireturn, 1), (75, .iinc 4 1, 3), (78, .goto (-75), 3), (81, .iconst (-1), 1), (82, .ireturn, 1)]
set_option maxRecDepth 20000 in
theorem daX7_firstUnclear : ∀ x ∈ tbX7_firstUnclear, decode cX7_firstUnclear x.1 = .ok x.2 := by decide +kernel
theorem dkX7_firstUnclear {i pc n : Nat} {ins : Instr} (h : tbX7_firstUnclear[i]? = some (pc, ins, n)) : decode cX7_firstUnclear pc = .ok (ins, n) := daX7_firstUnclear (pc, ins, n) (List.mem_of_getElem? h)
def fX7_firstUnclear (S0 : qv_St) (x1 : Int32) (x2 : Int32) (x3 : Int32) : Option (qv_St × Int32) :=
  qv_lp2 qv_N (fun self_1 (S_1 : qv_St) (x4_1 : Int32) =>
    qv_ck x1 6 <|
    if (S_1.1 17 (Int32.toNatClampNeg x1)) ≤ x4_1 then
      some (S_1, (-1))
    else
      qv_b ((x2 + x4_1) : Int32) fun x5_1 =>
      qv_j (fun (t_1 : Int32) =>
        qv_cm (fX7_soundAt S_1 x5_1) fun S_2 r_1 =>
        (fX7_noiseWithout t_1 r_1).bind fun r_2 =>
        qv_cm (fX0_borne S_2 x1 x4_1 ((S_2.1 31 0) + x5_1)) fun S_3 r_3 =>
        if r_2 ≤ r_3 then
          self_1 S_3 (x4_1 + 1)
        else
          some (S_3, x4_1)) fun K_1 =>
      if 300 ≤ x5_1 then
        K_1 (-1)
      else
        K_1 x3) S0 0
set_option maxRecDepth 20000 in
set_option maxHeartbeats 4000000 in
theorem wX7_firstUnclear (G : qv_GT) (S0 : qv_St) (x1 : Int32) (x2 : Int32) (x3 : Int32) : ∀ r, fX7_firstUnclear S0 x1 x2 x3 = some r → Cn G Lk yX7_firstUnclear cX7_firstUnclear 7 (some .int) 5 [.ref (G.2.2.1 260), .int x1, .int x2, .int x3] S0 (qe_m r) := by
  refine cn_of (own := RX7) (emb := qe_m) (lv := [(0, .ref (G.2.2.1 260)), (1, .int x1), (2, .int x2), (3, .int x3)]) rfl rfl (Nat.le_of_ble_eq_true rfl) rfl (fun X => ?_)
  unfold fX7_firstUnclear
  refine qr_iconst (n := 1) 0 (dkX7_firstUnclear (i := 0) rfl) rfl (by decide) ?_
  refine qr_istore (n := 3) (lv2 := [(0, .ref (G.2.2.1 260)), (1, .int x1), (2, .int x2), (3, .int x3), (4, .int 0)]) [1, 2, 3, 4, 0] (dkX7_firstUnclear (i := 1) rfl) rfl (by decide) rfl ?_
  refine qr_lp2 (fun (S_1 : qv_St) (x4_1 : Int32) => [(0, .ref (G.2.2.1 260)), (1, .int x1), (2, .int x2), (3, .int x3), (4, .int x4_1)]) (fun (S_1 : qv_St) (x4_1 : Int32) => S_1) (fun self_1 hself_1 S_1 x4_1 => ?_) qv_N S0 0
  refine qr_iload (n := 5) 4 (dkX7_firstUnclear (i := 2) rfl) rfl rfl ?_
  refine qr_aload_n (n := 6) 0 (dkX7_firstUnclear (i := 3) rfl) rfl rfl ?_
  refine qr_geta (n := 9) 260 0 9 (dkX7_firstUnclear (i := 4) rfl) rfl lkO_260 rfl gnX7 (Nat.le_of_ble_eq_true rfl) kfX7_24 rfl ?_
  refine qr_geta (n := 12) 9 10 17 (dkX7_firstUnclear (i := 5) rfl) rfl lkO_9 rfl gnX5 (Nat.le_of_ble_eq_true rfl) kfX7_99 rfl ?_
  refine qr_iload_n (n := 13) 1 (dkX7_firstUnclear (i := 6) rfl) rfl rfl ?_
  refine qr_iald (n := 14) 17 6 (dkX7_firstUnclear (i := 7) rfl) rfl lkA_17 ?_
  refine qr_icmp_ge (t := 81) (n := 17) (dkX7_firstUnclear (i := 8) rfl) (by decide) rfl ?_ ?_
  · refine qr_iconst (n := 82) (-1) (dkX7_firstUnclear (i := 40) rfl) rfl (by decide) ?_
    exact qr_iret (dkX7_firstUnclear (i := 41) rfl) rfl rfl
  · refine qr_iload_n (n := 18) 2 (dkX7_firstUnclear (i := 9) rfl) rfl rfl ?_
    refine qr_iload (n := 20) 4 (dkX7_firstUnclear (i := 10) rfl) rfl rfl ?_
    refine qr_iadd (n := 21) (dkX7_firstUnclear (i := 11) rfl) rfl ?_
    refine qr_b (α := Int32) (x2 + x4_1) (lvf := fun _ => [(0, .ref (G.2.2.1 260)), (1, .int x1), (2, .int x2), (3, .int x3), (4, .int x4_1)]) (stf := fun z => .int z :: []) (Sf := fun _ => S_1) (fun x5_1 => ?_)
    refine qr_istore (n := 23) (lv2 := [(0, .ref (G.2.2.1 260)), (1, .int x1), (2, .int x2), (3, .int x3), (4, .int x4_1), (5, .int x5_1)]) [1, 2, 3, 4, 5, 0] (dkX7_firstUnclear (i := 12) rfl) rfl (by decide) rfl ?_
    refine qr_iload (n := 25) 5 (dkX7_firstUnclear (i := 13) rfl) rfl rfl ?_
    refine qr_sipush (n := 28) 300 (dkX7_firstUnclear (i := 14) rfl) rfl (by decide) ?_
    refine qr_j (fun K_1 : Int32 → Option (qv_St × Int32) => ∀ (t_1 : Int32), VV G Lk X RX7 cX7_firstUnclear 7 (some .int) 5 qe_m 36 [(0, .ref (G.2.2.1 260)), (1, .int x1), (2, .int x2), (3, .int x3), (4, .int x4_1), (5, .int x5_1)] [.int t_1] S_1 (K_1 t_1)) (fun t_1 => ?_) (fun K_1 hK_1 => ?_)
    · refine qr_aload_n (n := 37) 0 (dkX7_firstUnclear (i := 19) rfl) rfl rfl ?_
      refine qr_iload (n := 39) 5 (dkX7_firstUnclear (i := 20) rfl) rfl rfl ?_
      refine qr_cvm (n := 42) 260 [.int x5_1] (dkX7_firstUnclear (i := 21) rfl) rfl kvX7_90 rfl rfl (Nat.le_of_ble_eq_true rfl) rfl rfl lkO_260 rfl (wX7_soundAt G S_1 x5_1) (fun S_2 r_1 => ?_)
      refine qr_csi (n := 45) [.int t_1, .int r_1] (dkX7_firstUnclear (i := 22) rfl) rfl kvX7_93 rfl rfl (Nat.le_of_ble_eq_true rfl) rfl rfl (wX7_noiseWithout G S_2 t_1 r_1) (fun r_2 => ?_)
      refine qr_istore (n := 47) (lv2 := [(0, .ref (G.2.2.1 260)), (1, .int x1), (2, .int x2), (3, .int x3), (4, .int x4_1), (5, .int x5_1), (6, .int r_2)]) [1, 2, 3, 4, 5, 6, 0] (dkX7_firstUnclear (i := 23) rfl) rfl (by decide) rfl ?_
      refine qr_iload (n := 49) 6 (dkX7_firstUnclear (i := 24) rfl) rfl rfl ?_
      refine qr_aload_n (n := 50) 0 (dkX7_firstUnclear (i := 25) rfl) rfl rfl ?_
      refine qr_geta (n := 53) 260 2 254 (dkX7_firstUnclear (i := 26) rfl) rfl lkO_260 rfl gnX7 (Nat.le_of_ble_eq_true rfl) kfX7_32 rfl ?_
      refine qr_iload_n (n := 54) 1 (dkX7_firstUnclear (i := 27) rfl) rfl rfl ?_
      refine qr_iload (n := 56) 4 (dkX7_firstUnclear (i := 28) rfl) rfl rfl ?_
      refine qr_aload_n (n := 57) 0 (dkX7_firstUnclear (i := 29) rfl) rfl rfl ?_
      refine qr_geta (n := 60) 260 1 31 (dkX7_firstUnclear (i := 30) rfl) rfl lkO_260 rfl gnX7 (Nat.le_of_ble_eq_true rfl) kfX7_28 rfl ?_
      refine qr_geti (n := 63) 31 0 (dkX7_firstUnclear (i := 31) rfl) rfl lkO_31 rfl gnX6 (Nat.le_of_ble_eq_true rfl) kfX7_42 rfl ?_
      refine qr_iload (n := 65) 5 (dkX7_firstUnclear (i := 32) rfl) rfl rfl ?_
      refine qr_iadd (n := 66) (dkX7_firstUnclear (i := 33) rfl) rfl ?_
      refine qr_cvm (n := 69) 254 [.int x1, .int x4_1, .int ((S_2.1 31 0) + x5_1)] (dkX7_firstUnclear (i := 34) rfl) rfl kvX7_102 rfl rfl (Nat.le_of_ble_eq_true rfl) rfl rfl lkO_254 rfl (wX0_borne G S_2 x1 x4_1 ((S_2.1 31 0) + x5_1)) (fun S_3 r_3 => ?_)
      refine qr_icmp_le (t := 75) (n := 72) (dkX7_firstUnclear (i := 35) rfl) (by decide) rfl ?_ ?_
      · refine qr_iinc (n := 78) (v := 1) (lv2 := [(0, .ref (G.2.2.1 260)), (1, .int x1), (2, .int x2), (3, .int x3), (4, .int (x4_1 + 1)), (5, .int x5_1), (6, .int r_2)]) 4 [1, 2, 3, 4, 0, 5, 6] (dkX7_firstUnclear (i := 38) rfl) rfl rfl (by decide) (by decide) rfl ?_
        refine qr_goto (n := 3) (dkX7_firstUnclear (i := 39) rfl) (by decide) ?_
        refine qr_sub [0, 1, 2, 3, 4] rfl ?_
        exact hself_1 S_3 (x4_1 + 1)
      · refine qr_iload (n := 74) 4 (dkX7_firstUnclear (i := 36) rfl) rfl rfl ?_
        exact qr_iret (dkX7_firstUnclear (i := 37) rfl) rfl rfl
    · refine qr_icmp_ge (t := 35) (n := 31) (dkX7_firstUnclear (i := 15) rfl) (by decide) rfl ?_ ?_
      · refine qr_iconst (n := 36) (-1) (dkX7_firstUnclear (i := 18) rfl) rfl (by decide) ?_
        exact hK_1 (-1)
      · refine qr_iload_n (n := 32) 3 (dkX7_firstUnclear (i := 16) rfl) rfl rfl ?_
        refine qr_goto (n := 36) (dkX7_firstUnclear (i := 17) rfl) (by decide) ?_
        exact hK_1 x3
def tbX7_firstGood : List (Nat × Instr × Nat) := [(0, .iconst 2, 1), (1, .iload_n 1, 1), (2, .imul, 1), (3, .istore 4, 2), (5, .iconst 0, 1), (6, .iload_n 2, 1), (7, .invokestatic 65, 3), (10, .istore 5, 2), (12, .iload 5, 2), (14, .iload_n 3, 1), (15, .if_icmp .gt 78, 3), (18, .iload 5, 2), (20, .sipush 1545, 3), (23, .if_icmp .ge 70, 3), (26, .aload_n 0, 1), (27, .getfield 17, 3), (30, .iload 5, 2), (32, .iaload, 1), (33, .iload 4, 2), (35, .ishr, 1), (36, .iconst 3, 1), (37, .iand, 1), (38, .istore 6, 2), (40, .iload 6, 2), (42, .ifCond .ne 36, 3), (45, .aload_n 0, 1), (46, .iload_n 1, 1), (47, .iload 5, 2), (49, .iconst (-1), 1), (50, .invokevirtual 105, 3), (53, .ifCond .ge 7, 3), (56, .iconst 1, 1), (57, .goto 4, 3), (60, .iconst 2, 1), (61, .istore 6, 2), (63, .aload_n 0, 1), (64, .getfield 17, 3), (67, .iload 5, 2), (69, .dup2, 1), (70, .iaload, 1), (71, .iload 6, 2), (73, .iload 4, 2), (75, .ishl, 1), (76, .ior, 1), (77, .iastore, 1), (78, .iload 6, 2), (80, .iconst 1, 1), (81, .if_icmp .ne 6, 3), (84, .iload 5, 2), (86, .ireturn, 1), (87, .iinc 5 1, 3), (90, .goto (-78), 3), (93, .bipush (-2), 2), (95, .ireturn, 1)]
set_option maxRecDepth 20000 in
theorem daX7_firstGood : ∀ x ∈ tbX7_firstGood, decode cX7_firstGood x.1 = .ok x.2 := by decide +kernel
theorem dkX7_firstGood {i pc n : Nat} {ins : Instr} (h : tbX7_firstGood[i]? = some (pc, ins, n)) : decode cX7_firstGood pc = .ok (ins, n) := daX7_firstGood (pc, ins, n) (List.mem_of_getElem? h)
def fX7_firstGood (S0 : qv_St) (x1 : Int32) (x2 : Int32) (x3 : Int32) : Option (qv_St × Int32) :=
  qv_b ((2 * x1) : Int32) fun x4_1 =>
  qv_b ((qv_mx 0 x2) : Int32) fun x5_1 =>
  qv_lp2 qv_N (fun self_1 (S_1 : qv_St) (x5_2 : Int32) =>
    if x3 < x5_2 then
      some (S_1, (-2))
    else
      if 1545 ≤ x5_2 then
        some (S_1, (-2))
      else
        qv_ck x5_2 1545 <|
        qv_b ((((S_1.1 262 (Int32.toNatClampNeg x5_2)) >>> (x4_1 &&& 31)) &&& 3) : Int32) fun x6_1 =>
        qv_j (fun (S_2 : qv_St) (x6_2 : Int32) =>
          if x6_2 = 1 then
            some (S_2, x5_2)
          else
            self_1 S_2 (x5_2 + 1)) fun K_1 =>
        if x6_1 = 0 then
          qv_cm (fX7_firstUnclear S_1 x1 x5_2 (-1)) fun S_3 r_1 =>
          qv_j (fun (t_1 : Int32) =>
            qv_ck x5_2 1545 <|
            qv_ck x5_2 1545 <| qv_b (qv_si S_3 262 (Int32.toNatClampNeg x5_2) ((S_3.1 262 (Int32.toNatClampNeg x5_2)) ||| (t_1 <<< (x4_1 &&& 31)))) fun S_4 =>
            K_1 S_4 t_1) fun K_2 =>
          if 0 ≤ r_1 then
            K_2 2
          else
            K_2 1
        else
          K_1 S_1 x6_1) S0 x5_1
set_option maxRecDepth 20000 in
set_option maxHeartbeats 4000000 in
theorem wX7_firstGood (G : qv_GT) (S0 : qv_St) (x1 : Int32) (x2 : Int32) (x3 : Int32) : ∀ r, fX7_firstGood S0 x1 x2 x3 = some r → Cn G Lk yX7_firstGood cX7_firstGood 7 (some .int) 6 [.ref (G.2.2.1 260), .int x1, .int x2, .int x3] S0 (qe_m r) := by
  refine cn_of (own := RX7) (emb := qe_m) (lv := [(0, .ref (G.2.2.1 260)), (1, .int x1), (2, .int x2), (3, .int x3)]) rfl rfl (Nat.le_of_ble_eq_true rfl) rfl (fun X => ?_)
  unfold fX7_firstGood
  refine qr_iconst (n := 1) 2 (dkX7_firstGood (i := 0) rfl) rfl (by decide) ?_
  refine qr_iload_n (n := 2) 1 (dkX7_firstGood (i := 1) rfl) rfl rfl ?_
  refine qr_imul (n := 3) (dkX7_firstGood (i := 2) rfl) rfl ?_
  refine qr_b (α := Int32) (2 * x1) (lvf := fun _ => [(0, .ref (G.2.2.1 260)), (1, .int x1), (2, .int x2), (3, .int x3)]) (stf := fun z => .int z :: []) (Sf := fun _ => S0) (fun x4_1 => ?_)
  refine qr_istore (n := 5) (lv2 := [(0, .ref (G.2.2.1 260)), (1, .int x1), (2, .int x2), (3, .int x3), (4, .int x4_1)]) [1, 2, 3, 4, 0] (dkX7_firstGood (i := 3) rfl) rfl (by decide) rfl ?_
  refine qr_iconst (n := 6) 0 (dkX7_firstGood (i := 4) rfl) rfl (by decide) ?_
  refine qr_iload_n (n := 7) 2 (dkX7_firstGood (i := 5) rfl) rfl rfl ?_
  refine qr_max (n := 10) (dkX7_firstGood (i := 6) rfl) rfl kmX7_65 kmhmax1 kmh2 kmhmax3 rfl (Nat.le_of_ble_eq_true rfl) ?_
  refine qr_b (α := Int32) (qv_mx 0 x2) (lvf := fun _ => [(0, .ref (G.2.2.1 260)), (1, .int x1), (2, .int x2), (3, .int x3), (4, .int x4_1)]) (stf := fun z => .int z :: []) (Sf := fun _ => S0) (fun x5_1 => ?_)
  refine qr_istore (n := 12) (lv2 := [(0, .ref (G.2.2.1 260)), (1, .int x1), (2, .int x2), (3, .int x3), (4, .int x4_1), (5, .int x5_1)]) [1, 2, 3, 4, 5, 0] (dkX7_firstGood (i := 7) rfl) rfl (by decide) rfl ?_
  refine qr_sub [0, 1, 3, 4, 5] rfl ?_
  refine qr_lp2 (fun (S_1 : qv_St) (x5_2 : Int32) => [(0, .ref (G.2.2.1 260)), (1, .int x1), (3, .int x3), (4, .int x4_1), (5, .int x5_2)]) (fun (S_1 : qv_St) (x5_2 : Int32) => S_1) (fun self_1 hself_1 S_1 x5_2 => ?_) qv_N S0 x5_1
  refine qr_iload (n := 14) 4 (dkX7_firstGood (i := 8) rfl) rfl rfl ?_
  refine qr_iload_n (n := 15) 2 (dkX7_firstGood (i := 9) rfl) rfl rfl ?_
  refine qr_icmp_gt (t := 93) (n := 18) (dkX7_firstGood (i := 10) rfl) (by decide) rfl ?_ ?_
  · refine qr_bipush (n := 95) (-2) (dkX7_firstGood (i := 52) rfl) rfl (by decide) ?_
    exact qr_iret (dkX7_firstGood (i := 53) rfl) rfl rfl
  · refine qr_iload (n := 20) 4 (dkX7_firstGood (i := 11) rfl) rfl rfl ?_
    refine qr_sipush (n := 23) 1545 (dkX7_firstGood (i := 12) rfl) rfl (by decide) ?_
    refine qr_icmp_ge (t := 93) (n := 26) (dkX7_firstGood (i := 13) rfl) (by decide) rfl ?_ ?_
    · refine qr_bipush (n := 95) (-2) (dkX7_firstGood (i := 52) rfl) rfl (by decide) ?_
      exact qr_iret (dkX7_firstGood (i := 53) rfl) rfl rfl
    · refine qr_aload_n (n := 27) 0 (dkX7_firstGood (i := 14) rfl) rfl rfl ?_
      refine qr_geta (n := 30) 260 4 262 (dkX7_firstGood (i := 15) rfl) rfl lkO_260 rfl gnX7 (Nat.le_of_ble_eq_true rfl) kfX7_17 rfl ?_
      refine qr_iload (n := 32) 4 (dkX7_firstGood (i := 16) rfl) rfl rfl ?_
      refine qr_iald (n := 33) 262 1545 (dkX7_firstGood (i := 17) rfl) rfl lkA_262 ?_
      refine qr_iload (n := 35) 3 (dkX7_firstGood (i := 18) rfl) rfl rfl ?_
      refine qr_ishr (n := 36) (dkX7_firstGood (i := 19) rfl) rfl ?_
      refine qr_iconst (n := 37) 3 (dkX7_firstGood (i := 20) rfl) rfl (by decide) ?_
      refine qr_iand (n := 38) (dkX7_firstGood (i := 21) rfl) rfl ?_
      refine qr_b (α := Int32) (((S_1.1 262 (Int32.toNatClampNeg x5_2)) >>> (x4_1 &&& 31)) &&& 3) (lvf := fun _ => [(0, .ref (G.2.2.1 260)), (1, .int x1), (3, .int x3), (4, .int x4_1), (5, .int x5_2)]) (stf := fun z => .int z :: []) (Sf := fun _ => S_1) (fun x6_1 => ?_)
      refine qr_istore (n := 40) (lv2 := [(0, .ref (G.2.2.1 260)), (1, .int x1), (3, .int x3), (4, .int x4_1), (5, .int x5_2), (6, .int x6_1)]) [1, 2, 3, 4, 5, 0] (dkX7_firstGood (i := 22) rfl) rfl (by decide) rfl ?_
      refine qr_iload (n := 42) 5 (dkX7_firstGood (i := 23) rfl) rfl rfl ?_
      refine qr_j (fun K_1 : qv_St → Int32 → Option (qv_St × Int32) => ∀ (S_2 : qv_St) (x6_2 : Int32), VV G Lk X RX7 cX7_firstGood 7 (some .int) 6 qe_m 78 [(0, .ref (G.2.2.1 260)), (1, .int x1), (3, .int x3), (4, .int x4_1), (5, .int x5_2), (6, .int x6_2)] [] S_2 (K_1 S_2 x6_2)) (fun S_2 x6_2 => ?_) (fun K_1 hK_1 => ?_)
      · refine qr_iload (n := 80) 5 (dkX7_firstGood (i := 45) rfl) rfl rfl ?_
        refine qr_iconst (n := 81) 1 (dkX7_firstGood (i := 46) rfl) rfl (by decide) ?_
        refine qr_icmp_ne (t := 87) (n := 84) (dkX7_firstGood (i := 47) rfl) (by decide) rfl ?_ ?_
        · refine qr_iinc (n := 90) (v := 1) (lv2 := [(0, .ref (G.2.2.1 260)), (1, .int x1), (3, .int x3), (4, .int x4_1), (5, .int (x5_2 + 1)), (6, .int x6_2)]) 4 [1, 2, 3, 4, 0, 5] (dkX7_firstGood (i := 50) rfl) rfl rfl (by decide) (by decide) rfl ?_
          refine qr_goto (n := 12) (dkX7_firstGood (i := 51) rfl) (by decide) ?_
          refine qr_sub [0, 1, 2, 3, 4] rfl ?_
          exact hself_1 S_2 (x5_2 + 1)
        · refine qr_iload (n := 86) 4 (dkX7_firstGood (i := 48) rfl) rfl rfl ?_
          exact qr_iret (dkX7_firstGood (i := 49) rfl) rfl rfl
      · refine qr_if_ne (t := 78) (n := 45) (dkX7_firstGood (i := 24) rfl) (by decide) rfl ?_ ?_
        · exact hK_1 S_1 x6_1
        · refine qr_aload_n (n := 46) 0 (dkX7_firstGood (i := 25) rfl) rfl rfl ?_
          refine qr_iload_n (n := 47) 1 (dkX7_firstGood (i := 26) rfl) rfl rfl ?_
          refine qr_iload (n := 49) 4 (dkX7_firstGood (i := 27) rfl) rfl rfl ?_
          refine qr_iconst (n := 50) (-1) (dkX7_firstGood (i := 28) rfl) rfl (by decide) ?_
          refine qr_cvm (n := 53) 260 [.int x1, .int x5_2, .int (-1)] (dkX7_firstGood (i := 29) rfl) rfl kvX7_105 rfl rfl (Nat.le_of_ble_eq_true rfl) rfl rfl lkO_260 rfl (wX7_firstUnclear G S_1 x1 x5_2 (-1)) (fun S_3 r_1 => ?_)
          refine qr_j (fun K_2 : Int32 → Option (qv_St × Int32) => ∀ (t_1 : Int32), VV G Lk X RX7 cX7_firstGood 7 (some .int) 6 qe_m 61 [(0, .ref (G.2.2.1 260)), (1, .int x1), (3, .int x3), (4, .int x4_1), (5, .int x5_2)] [.int t_1] S_3 (K_2 t_1)) (fun t_1 => ?_) (fun K_2 hK_2 => ?_)
          · refine qr_istore (n := 63) (lv2 := [(0, .ref (G.2.2.1 260)), (1, .int x1), (3, .int x3), (4, .int x4_1), (5, .int x5_2), (6, .int t_1)]) [1, 2, 3, 4, 5, 0] (dkX7_firstGood (i := 34) rfl) rfl (by decide) rfl ?_
            refine qr_aload_n (n := 64) 0 (dkX7_firstGood (i := 35) rfl) rfl rfl ?_
            refine qr_geta (n := 67) 260 4 262 (dkX7_firstGood (i := 36) rfl) rfl lkO_260 rfl gnX7 (Nat.le_of_ble_eq_true rfl) kfX7_17 rfl ?_
            refine qr_iload (n := 69) 4 (dkX7_firstGood (i := 37) rfl) rfl rfl ?_
            refine qr_dup2 (n := 70) (dkX7_firstGood (i := 38) rfl) rfl rfl rfl ?_
            refine qr_iald (n := 71) 262 1545 (dkX7_firstGood (i := 39) rfl) rfl lkA_262 ?_
            refine qr_iload (n := 73) 5 (dkX7_firstGood (i := 40) rfl) rfl rfl ?_
            refine qr_iload (n := 75) 3 (dkX7_firstGood (i := 41) rfl) rfl rfl ?_
            refine qr_ishl (n := 76) (dkX7_firstGood (i := 42) rfl) rfl ?_
            refine qr_ior (n := 77) (dkX7_firstGood (i := 43) rfl) rfl ?_
            refine qr_iast (n := 78) 262 1545 (dkX7_firstGood (i := 44) rfl) rfl lkA_262 (fun S_4 => ?_)
            exact hK_1 S_4 t_1
          · refine qr_if_ge (t := 60) (n := 56) (dkX7_firstGood (i := 30) rfl) (by decide) rfl ?_ ?_
            · refine qr_iconst (n := 61) 2 (dkX7_firstGood (i := 33) rfl) rfl (by decide) ?_
              refine qr_sub [0, 1, 2, 3, 4] rfl ?_
              exact hK_2 2
            · refine qr_iconst (n := 57) 1 (dkX7_firstGood (i := 31) rfl) rfl (by decide) ?_
              refine qr_goto (n := 61) (dkX7_firstGood (i := 32) rfl) (by decide) ?_
              refine qr_sub [0, 1, 2, 3, 4] rfl ?_
              exact hK_2 1
def tbX3_keepIfSooner : List (Nat × Instr × Nat) := [(0, .iload_n 2, 1), (1, .aload_n 0, 1), (2, .getfield 18, 3), (5, .iload_n 1, 1), (6, .iaload, 1), (7, .if_icmp .ge 35, 3), (10, .aload_n 0, 1), (11, .getfield 18, 3), (14, .iload_n 1, 1), (15, .iload_n 2, 1), (16, .iastore, 1), (17, .iload_n 1, 1), (18, .aload_n 0, 1), (19, .invokevirtual 74, 3), (22, .if_icmp .ne 20, 3), (25, .aload_n 0, 1), (26, .getfield 15, 3), (29, .iconst 0, 1), (30, .aload_n 0, 1), (31, .getfield 21, 3), (34, .iconst 0, 1), (35, .aload_n 0, 1), (36, .getfield 36, 3), (39, .invokestatic 78, 3), (42, .return_, 1)]
set_option maxRecDepth 20000 in
theorem daX3_keepIfSooner : ∀ x ∈ tbX3_keepIfSooner, decode cX3_keepIfSooner x.1 = .ok x.2 := by decide +kernel
theorem dkX3_keepIfSooner {i pc n : Nat} {ins : Instr} (h : tbX3_keepIfSooner[i]? = some (pc, ins, n)) : decode cX3_keepIfSooner pc = .ok (ins, n) := daX3_keepIfSooner (pc, ins, n) (List.mem_of_getElem? h)
def fX3_keepIfSooner (S0 : qv_St) (x1 : Int32) (x2 : Int32) : Option qv_St :=
  qv_ck x1 32 <|
  if (S0.1 266 (Int32.toNatClampNeg x1)) ≤ x2 then
    some S0
  else
    qv_ck x1 32 <| qv_b (qv_si S0 266 (Int32.toNatClampNeg x1) x2) fun S_1 =>
    (fX3_all S_1).bind fun r_1 =>
    if x1 = r_1 then
      qv_cq 0 0 (S_1.1 263 7) 5 5 <| qv_b (qv_cp S_1 265 (Int32.toNatClampNeg 0) 267 (Int32.toNatClampNeg 0) (Int32.toNatClampNeg (S_1.1 263 7))) fun S_2 =>
      some S_2
    else
      some S_1
set_option maxRecDepth 20000 in
set_option maxHeartbeats 4000000 in
theorem wX3_keepIfSooner (G : qv_GT) (S0 : qv_St) (x1 : Int32) (x2 : Int32) : ∀ r, fX3_keepIfSooner S0 x1 x2 = some r → Cn G Lk yX3_keepIfSooner cX3_keepIfSooner 3 none 2 [.ref (G.2.2.1 263), .int x1, .int x2] S0 (qe_u r) := by
  refine cn_of (own := RX3) (emb := qe_u) (lv := [(0, .ref (G.2.2.1 263)), (1, .int x1), (2, .int x2)]) rfl rfl (Nat.le_of_ble_eq_true rfl) rfl (fun X => ?_)
  unfold fX3_keepIfSooner
  refine qr_iload_n (n := 1) 2 (dkX3_keepIfSooner (i := 0) rfl) rfl rfl ?_
  refine qr_aload_n (n := 2) 0 (dkX3_keepIfSooner (i := 1) rfl) rfl rfl ?_
  refine qr_geta (n := 5) 263 5 266 (dkX3_keepIfSooner (i := 2) rfl) rfl lkO_263 rfl gnX3 (Nat.le_of_ble_eq_true rfl) kfX3_18 rfl ?_
  refine qr_iload_n (n := 6) 1 (dkX3_keepIfSooner (i := 3) rfl) rfl rfl ?_
  refine qr_iald (n := 7) 266 32 (dkX3_keepIfSooner (i := 4) rfl) rfl lkA_266 ?_
  refine qr_icmp_ge (t := 42) (n := 10) (dkX3_keepIfSooner (i := 5) rfl) (by decide) rfl ?_ ?_
  · exact qr_vret (dkX3_keepIfSooner (i := 24) rfl) rfl rfl
  · refine qr_aload_n (n := 11) 0 (dkX3_keepIfSooner (i := 6) rfl) rfl rfl ?_
    refine qr_geta (n := 14) 263 5 266 (dkX3_keepIfSooner (i := 7) rfl) rfl lkO_263 rfl gnX3 (Nat.le_of_ble_eq_true rfl) kfX3_18 rfl ?_
    refine qr_iload_n (n := 15) 1 (dkX3_keepIfSooner (i := 8) rfl) rfl rfl ?_
    refine qr_iload_n (n := 16) 2 (dkX3_keepIfSooner (i := 9) rfl) rfl rfl ?_
    refine qr_iast (n := 17) 266 32 (dkX3_keepIfSooner (i := 10) rfl) rfl lkA_266 (fun S_1 => ?_)
    refine qr_iload_n (n := 18) 1 (dkX3_keepIfSooner (i := 11) rfl) rfl rfl ?_
    refine qr_aload_n (n := 19) 0 (dkX3_keepIfSooner (i := 12) rfl) rfl rfl ?_
    refine qr_cvi (n := 22) 263 [] (dkX3_keepIfSooner (i := 13) rfl) rfl kvX3_74 rfl rfl (Nat.le_of_ble_eq_true rfl) rfl rfl lkO_263 rfl (wX3_all G S_1) (fun r_1 => ?_)
    refine qr_icmp_ne (t := 42) (n := 25) (dkX3_keepIfSooner (i := 14) rfl) (by decide) rfl ?_ ?_
    · exact qr_vret (dkX3_keepIfSooner (i := 24) rfl) rfl rfl
    · refine qr_aload_n (n := 26) 0 (dkX3_keepIfSooner (i := 15) rfl) rfl rfl ?_
      refine qr_geta (n := 29) 263 4 265 (dkX3_keepIfSooner (i := 16) rfl) rfl lkO_263 rfl gnX3 (Nat.le_of_ble_eq_true rfl) kfX3_15 rfl ?_
      refine qr_iconst (n := 30) 0 (dkX3_keepIfSooner (i := 17) rfl) rfl (by decide) ?_
      refine qr_aload_n (n := 31) 0 (dkX3_keepIfSooner (i := 18) rfl) rfl rfl ?_
      refine qr_geta (n := 34) 263 6 267 (dkX3_keepIfSooner (i := 19) rfl) rfl lkO_263 rfl gnX3 (Nat.le_of_ble_eq_true rfl) kfX3_21 rfl ?_
      refine qr_iconst (n := 35) 0 (dkX3_keepIfSooner (i := 20) rfl) rfl (by decide) ?_
      refine qr_aload_n (n := 36) 0 (dkX3_keepIfSooner (i := 21) rfl) rfl rfl ?_
      refine qr_geti (n := 39) 263 7 (dkX3_keepIfSooner (i := 22) rfl) rfl lkO_263 rfl gnX3 (Nat.le_of_ble_eq_true rfl) kfX3_36 rfl ?_
      refine qr_copy (n := 42) 265 5 267 5 (dkX3_keepIfSooner (i := 23) rfl) rfl klX3_78 kcy1 kcy2 kcy3 rfl (Nat.le_of_ble_eq_true rfl) lkA_265 lkA_267 (fun S_2 => ?_)
      exact qr_vret (dkX3_keepIfSooner (i := 24) rfl) rfl rfl
def tbX3_visit : List (Nat × Instr × Nat) := [(0, .iload_n 1, 1), (1, .aload_n 0, 1), (2, .getfield 36, 3), (5, .if_icmp .lt 4, 3), (8, .return_, 1), (9, .iconst 0, 1), (10, .istore 4, 2), (12, .iload 4, 2), (14, .aload_n 0, 1), (15, .getfield 36, 3), (18, .if_icmp .ge 107, 3), (21, .iload_n 2, 1), (22, .iconst 1, 1), (23, .iload 4, 2), (25, .ishl, 1), (26, .ior, 1), (27, .istore 5, 2), (29, .iload 5, 2), (31, .iload_n 2, 1), (32, .if_icmp .ne 8, 3), (35, .bipush (-2), 2), (37, .goto 23, 3), (40, .aload_n 0, 1), (41, .getfield 32, 3), (44, .aload_n 0, 1), (45, .getfield 11, 3), (48, .iload 4, 2), (50, .iaload, 1), (51, .iload_n 3, 1), (52, .iload_n 3, 1), (53, .sipush 300, 3), (56, .iadd, 1), (57, .invokevirtual 57, 3), (60, .istore 6, 2), (62, .iload 6, 2), (64, .ifCond .lt 55, 3), (67, .aload_n 0, 1), (68, .getfield 15, 3), (71, .iload_n 1, 1), (72, .aload_n 0, 1), (73, .getfield 11, 3), (76, .iload 4, 2), (78, .iaload, 1), (79, .iastore, 1), (80, .iload 6, 2), (82, .aload_n 0, 1), (83, .getfield 24, 3), (86, .getfield 63, 3), (89, .aload_n 0, 1), (90, .getfield 11, 3), (93, .iload 4, 2), (95, .iaload, 1), (96, .iaload, 1), (97, .iadd, 1), (98, .istore 7, 2), (100, .aload_n 0, 1), (101, .iload 5, 2), (103, .iload 7, 2), (105, .invokevirtual 66, 3), (108, .aload_n 0, 1), (109, .iload_n 1, 1), (110, .iconst 1, 1), (111, .iadd, 1), (112, .iload 5, 2), (114, .iload 7, 2), (116, .invokevirtual 70, 3), (119, .iinc 4 1, 3), (122, .goto (-110), 3), (125, .return_, 1)]
set_option maxRecDepth 20000 in
theorem daX3_visit : ∀ x ∈ tbX3_visit, decode cX3_visit x.1 = .ok x.2 := by decide +kernel
theorem dkX3_visit {i pc n : Nat} {ins : Instr} (h : tbX3_visit[i]? = some (pc, ins, n)) : decode cX3_visit pc = .ok (ins, n) := daX3_visit (pc, ins, n) (List.mem_of_getElem? h)
def fX3_visit : Nat → qv_St → Int32 → Int32 → Int32 → Option qv_St
  | 0, _, _, _, _ => none
  | d + 1, S0, x1, x2, x3 =>
    if x1 < (S0.1 263 7) then
      qv_lp2 qv_N (fun self_1 (S_1 : qv_St) (x4_1 : Int32) =>
        if (S_1.1 263 7) ≤ x4_1 then
          some S_1
        else
          qv_b ((x2 ||| (1 <<< (x4_1 &&& 31))) : Int32) fun x5_1 =>
          qv_j (fun (S_2 : qv_St) (t_1 : Int32) =>
            qv_j (fun (S_3 : qv_St) =>
              self_1 S_3 (x4_1 + 1)) fun K_2 =>
            if t_1 < 0 then
              K_2 S_2
            else
              qv_ck x4_1 5 <|
              qv_ck x1 5 <| qv_b (qv_si S_2 265 (Int32.toNatClampNeg x1) (S_2.1 264 (Int32.toNatClampNeg x4_1))) fun S_4 =>
              qv_ck x4_1 5 <|
              qv_ck (S_4.1 264 (Int32.toNatClampNeg x4_1)) 6 <|
              qv_b ((t_1 + (S_4.1 17 (Int32.toNatClampNeg (S_4.1 264 (Int32.toNatClampNeg x4_1))))) : Int32) fun x7_1 =>
              (fX3_keepIfSooner S_4 x5_1 x7_1).bind fun S_5 =>
              (fX3_visit d S_5 (x1 + 1) x5_1 x7_1).bind fun S_6 =>
              K_2 S_6) fun K_1 =>
          if x5_1 = x2 then
            K_1 S_1 (-2)
          else
            qv_ck x4_1 5 <|
            qv_cm (fX7_firstGood S_1 (S_1.1 264 (Int32.toNatClampNeg x4_1)) x3 (x3 + 300)) fun S_7 r_1 =>
            K_1 S_7 r_1) S0 0
    else
      some S0
set_option maxRecDepth 20000 in
set_option maxHeartbeats 4000000 in
theorem wX3_visit (G : qv_GT) : ∀ (d : Nat) (S0 : qv_St) (x1 : Int32) (x2 : Int32) (x3 : Int32) r, fX3_visit d S0 x1 x2 x3 = some r → Cn G Lk yX3_visit cX3_visit 8 none (7 + d) [.ref (G.2.2.1 263), .int x1, .int x2, .int x3] S0 (qe_u r) := by
  intro d
  induction d with
  | zero => exact fun _ _ _ _ r h => by cases h
  | succ d ih =>
    intro S0 x1 x2 x3
    refine cn_of (own := RX3) (emb := qe_u) (lv := [(0, .ref (G.2.2.1 263)), (1, .int x1), (2, .int x2), (3, .int x3)]) rfl rfl (Nat.le_of_ble_eq_true rfl) rfl (fun X => ?_)
    unfold fX3_visit
    refine qr_iload_n (n := 1) 1 (dkX3_visit (i := 0) rfl) rfl rfl ?_
    refine qr_aload_n (n := 2) 0 (dkX3_visit (i := 1) rfl) rfl rfl ?_
    refine qr_geti (n := 5) 263 7 (dkX3_visit (i := 2) rfl) rfl lkO_263 rfl gnX3 (Nat.le_of_ble_eq_true rfl) kfX3_36 rfl ?_
    refine qr_icmp_lt (t := 9) (n := 8) (dkX3_visit (i := 3) rfl) (by decide) rfl ?_ ?_
    · refine qr_iconst (n := 10) 0 (dkX3_visit (i := 5) rfl) rfl (by decide) ?_
      refine qr_istore (n := 12) (lv2 := [(0, .ref (G.2.2.1 263)), (1, .int x1), (2, .int x2), (3, .int x3), (4, .int 0)]) [1, 2, 3, 4, 0] (dkX3_visit (i := 6) rfl) rfl (by decide) rfl ?_
      refine qr_lp2 (fun (S_1 : qv_St) (x4_1 : Int32) => [(0, .ref (G.2.2.1 263)), (1, .int x1), (2, .int x2), (3, .int x3), (4, .int x4_1)]) (fun (S_1 : qv_St) (x4_1 : Int32) => S_1) (fun self_1 hself_1 S_1 x4_1 => ?_) qv_N S0 0
      refine qr_iload (n := 14) 4 (dkX3_visit (i := 7) rfl) rfl rfl ?_
      refine qr_aload_n (n := 15) 0 (dkX3_visit (i := 8) rfl) rfl rfl ?_
      refine qr_geti (n := 18) 263 7 (dkX3_visit (i := 9) rfl) rfl lkO_263 rfl gnX3 (Nat.le_of_ble_eq_true rfl) kfX3_36 rfl ?_
      refine qr_icmp_ge (t := 125) (n := 21) (dkX3_visit (i := 10) rfl) (by decide) rfl ?_ ?_
      · exact qr_vret (dkX3_visit (i := 68) rfl) rfl rfl
      · refine qr_iload_n (n := 22) 2 (dkX3_visit (i := 11) rfl) rfl rfl ?_
        refine qr_iconst (n := 23) 1 (dkX3_visit (i := 12) rfl) rfl (by decide) ?_
        refine qr_iload (n := 25) 4 (dkX3_visit (i := 13) rfl) rfl rfl ?_
        refine qr_ishl (n := 26) (dkX3_visit (i := 14) rfl) rfl ?_
        refine qr_ior (n := 27) (dkX3_visit (i := 15) rfl) rfl ?_
        refine qr_b (α := Int32) (x2 ||| (1 <<< (x4_1 &&& 31))) (lvf := fun _ => [(0, .ref (G.2.2.1 263)), (1, .int x1), (2, .int x2), (3, .int x3), (4, .int x4_1)]) (stf := fun z => .int z :: []) (Sf := fun _ => S_1) (fun x5_1 => ?_)
        refine qr_istore (n := 29) (lv2 := [(0, .ref (G.2.2.1 263)), (1, .int x1), (2, .int x2), (3, .int x3), (4, .int x4_1), (5, .int x5_1)]) [1, 2, 3, 4, 5, 0] (dkX3_visit (i := 16) rfl) rfl (by decide) rfl ?_
        refine qr_iload (n := 31) 5 (dkX3_visit (i := 17) rfl) rfl rfl ?_
        refine qr_iload_n (n := 32) 2 (dkX3_visit (i := 18) rfl) rfl rfl ?_
        refine qr_j (fun K_1 : qv_St → Int32 → Option qv_St => ∀ (S_2 : qv_St) (t_1 : Int32), VV G Lk X RX3 cX3_visit 8 none (7 + (d + 1)) qe_u 60 [(0, .ref (G.2.2.1 263)), (1, .int x1), (2, .int x2), (3, .int x3), (4, .int x4_1), (5, .int x5_1)] [.int t_1] S_2 (K_1 S_2 t_1)) (fun S_2 t_1 => ?_) (fun K_1 hK_1 => ?_)
        · refine qr_istore (n := 62) (lv2 := [(0, .ref (G.2.2.1 263)), (1, .int x1), (2, .int x2), (3, .int x3), (4, .int x4_1), (5, .int x5_1), (6, .int t_1)]) [1, 2, 3, 4, 5, 6, 0] (dkX3_visit (i := 33) rfl) rfl (by decide) rfl ?_
          refine qr_iload (n := 64) 6 (dkX3_visit (i := 34) rfl) rfl rfl ?_
          refine qr_j (fun K_2 : qv_St → Option qv_St => ∀ (S_3 : qv_St), VV G Lk X RX3 cX3_visit 8 none (7 + (d + 1)) qe_u 119 [(0, .ref (G.2.2.1 263)), (1, .int x1), (2, .int x2), (3, .int x3), (4, .int x4_1)] [] S_3 (K_2 S_3)) (fun S_3 => ?_) (fun K_2 hK_2 => ?_)
          · refine qr_iinc (n := 122) (v := 1) (lv2 := [(0, .ref (G.2.2.1 263)), (1, .int x1), (2, .int x2), (3, .int x3), (4, .int (x4_1 + 1))]) 4 [1, 2, 3, 4, 0] (dkX3_visit (i := 66) rfl) rfl rfl (by decide) (by decide) rfl ?_
            refine qr_goto (n := 12) (dkX3_visit (i := 67) rfl) (by decide) ?_
            exact hself_1 S_3 (x4_1 + 1)
          · refine qr_if_lt (t := 119) (n := 67) (dkX3_visit (i := 35) rfl) (by decide) rfl ?_ ?_
            · refine qr_sub [0, 1, 2, 3, 4] rfl ?_
              exact hK_2 S_2
            · refine qr_aload_n (n := 68) 0 (dkX3_visit (i := 36) rfl) rfl rfl ?_
              refine qr_geta (n := 71) 263 4 265 (dkX3_visit (i := 37) rfl) rfl lkO_263 rfl gnX3 (Nat.le_of_ble_eq_true rfl) kfX3_15 rfl ?_
              refine qr_iload_n (n := 72) 1 (dkX3_visit (i := 38) rfl) rfl rfl ?_
              refine qr_aload_n (n := 73) 0 (dkX3_visit (i := 39) rfl) rfl rfl ?_
              refine qr_geta (n := 76) 263 3 264 (dkX3_visit (i := 40) rfl) rfl lkO_263 rfl gnX3 (Nat.le_of_ble_eq_true rfl) kfX3_11 rfl ?_
              refine qr_iload (n := 78) 4 (dkX3_visit (i := 41) rfl) rfl rfl ?_
              refine qr_iald (n := 79) 264 5 (dkX3_visit (i := 42) rfl) rfl lkA_264 ?_
              refine qr_iast (n := 80) 265 5 (dkX3_visit (i := 43) rfl) rfl lkA_265 (fun S_4 => ?_)
              refine qr_iload (n := 82) 6 (dkX3_visit (i := 44) rfl) rfl rfl ?_
              refine qr_aload_n (n := 83) 0 (dkX3_visit (i := 45) rfl) rfl rfl ?_
              refine qr_geta (n := 86) 263 0 9 (dkX3_visit (i := 46) rfl) rfl lkO_263 rfl gnX3 (Nat.le_of_ble_eq_true rfl) kfX3_24 rfl ?_
              refine qr_geta (n := 89) 9 10 17 (dkX3_visit (i := 47) rfl) rfl lkO_9 rfl gnX5 (Nat.le_of_ble_eq_true rfl) kfX3_63 rfl ?_
              refine qr_aload_n (n := 90) 0 (dkX3_visit (i := 48) rfl) rfl rfl ?_
              refine qr_geta (n := 93) 263 3 264 (dkX3_visit (i := 49) rfl) rfl lkO_263 rfl gnX3 (Nat.le_of_ble_eq_true rfl) kfX3_11 rfl ?_
              refine qr_iload (n := 95) 4 (dkX3_visit (i := 50) rfl) rfl rfl ?_
              refine qr_iald (n := 96) 264 5 (dkX3_visit (i := 51) rfl) rfl lkA_264 ?_
              refine qr_iald (n := 97) 17 6 (dkX3_visit (i := 52) rfl) rfl lkA_17 ?_
              refine qr_iadd (n := 98) (dkX3_visit (i := 53) rfl) rfl ?_
              refine qr_b (α := Int32) (t_1 + (S_4.1 17 (Int32.toNatClampNeg (S_4.1 264 (Int32.toNatClampNeg x4_1))))) (lvf := fun _ => [(0, .ref (G.2.2.1 263)), (1, .int x1), (2, .int x2), (3, .int x3), (4, .int x4_1), (5, .int x5_1), (6, .int t_1)]) (stf := fun z => .int z :: []) (Sf := fun _ => S_4) (fun x7_1 => ?_)
              refine qr_istore (n := 100) (lv2 := [(0, .ref (G.2.2.1 263)), (1, .int x1), (2, .int x2), (3, .int x3), (4, .int x4_1), (5, .int x5_1), (6, .int t_1), (7, .int x7_1)]) [1, 2, 3, 4, 5, 6, 7, 0] (dkX3_visit (i := 54) rfl) rfl (by decide) rfl ?_
              refine qr_aload_n (n := 101) 0 (dkX3_visit (i := 55) rfl) rfl rfl ?_
              refine qr_iload (n := 103) 5 (dkX3_visit (i := 56) rfl) rfl rfl ?_
              refine qr_iload (n := 105) 7 (dkX3_visit (i := 57) rfl) rfl rfl ?_
              refine qr_cvu (n := 108) 263 [.int x5_1, .int x7_1] (dkX3_visit (i := 58) rfl) rfl kvX3_66 rfl rfl (Nat.le_of_ble_eq_true rfl) (Nat.ble_eq_true_of_le (by omega)) rfl lkO_263 rfl (wX3_keepIfSooner G S_4 x5_1 x7_1) (fun S_5 => ?_)
              refine qr_aload_n (n := 109) 0 (dkX3_visit (i := 59) rfl) rfl rfl ?_
              refine qr_iload_n (n := 110) 1 (dkX3_visit (i := 60) rfl) rfl rfl ?_
              refine qr_iconst (n := 111) 1 (dkX3_visit (i := 61) rfl) rfl (by decide) ?_
              refine qr_iadd (n := 112) (dkX3_visit (i := 62) rfl) rfl ?_
              refine qr_iload (n := 114) 5 (dkX3_visit (i := 63) rfl) rfl rfl ?_
              refine qr_iload (n := 116) 7 (dkX3_visit (i := 64) rfl) rfl rfl ?_
              refine qr_cvu (n := 119) 263 [.int (x1 + 1), .int x5_1, .int x7_1] (dkX3_visit (i := 65) rfl) rfl kvX3_70 rfl rfl (Nat.le_of_ble_eq_true rfl) (Nat.ble_eq_true_of_le (by omega)) rfl lkO_263 rfl (ih S_5 (x1 + 1) x5_1 x7_1) (fun S_6 => ?_)
              refine qr_sub [0, 1, 2, 3, 4] rfl ?_
              exact hK_2 S_6
        · refine qr_icmp_ne (t := 40) (n := 35) (dkX3_visit (i := 19) rfl) (by decide) rfl ?_ ?_
          · refine qr_aload_n (n := 41) 0 (dkX3_visit (i := 22) rfl) rfl rfl ?_
            refine qr_geta (n := 44) 263 2 260 (dkX3_visit (i := 23) rfl) rfl lkO_263 rfl gnX3 (Nat.le_of_ble_eq_true rfl) kfX3_32 rfl ?_
            refine qr_aload_n (n := 45) 0 (dkX3_visit (i := 24) rfl) rfl rfl ?_
            refine qr_geta (n := 48) 263 3 264 (dkX3_visit (i := 25) rfl) rfl lkO_263 rfl gnX3 (Nat.le_of_ble_eq_true rfl) kfX3_11 rfl ?_
            refine qr_iload (n := 50) 4 (dkX3_visit (i := 26) rfl) rfl rfl ?_
            refine qr_iald (n := 51) 264 5 (dkX3_visit (i := 27) rfl) rfl lkA_264 ?_
            refine qr_iload_n (n := 52) 3 (dkX3_visit (i := 28) rfl) rfl rfl ?_
            refine qr_iload_n (n := 53) 3 (dkX3_visit (i := 29) rfl) rfl rfl ?_
            refine qr_sipush (n := 56) 300 (dkX3_visit (i := 30) rfl) rfl (by decide) ?_
            refine qr_iadd (n := 57) (dkX3_visit (i := 31) rfl) rfl ?_
            refine qr_cvm (n := 60) 260 [.int (S_1.1 264 (Int32.toNatClampNeg x4_1)), .int x3, .int (x3 + 300)] (dkX3_visit (i := 32) rfl) rfl kvX3_57 rfl rfl (Nat.le_of_ble_eq_true rfl) (Nat.ble_eq_true_of_le (by omega)) rfl lkO_260 rfl (wX7_firstGood G S_1 (S_1.1 264 (Int32.toNatClampNeg x4_1)) x3 (x3 + 300)) (fun S_7 r_1 => ?_)
            exact hK_1 S_7 r_1
          · refine qr_bipush (n := 37) (-2) (dkX3_visit (i := 20) rfl) rfl (by decide) ?_
            refine qr_goto (n := 60) (dkX3_visit (i := 21) rfl) (by decide) ?_
            exact hK_1 S_1 (-2)
    · exact qr_vret (dkX3_visit (i := 4) rfl) rfl rfl
