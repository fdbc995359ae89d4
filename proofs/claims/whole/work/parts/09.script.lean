def Ls : List qv_Lc := [.inl (5, [none, none, none, some 1, some 2, some 3, some 4, some 5, some 6, some 7, some 8, some 9, some 10, some 14, some 18, none, none, none]), .inr (2, 8, []), .inr (0, 8, []), .inr (0, 8, []), .inr (0, 8, []), .inr (0, 8, []), .inr (0, 8, []), .inr (0, 4, []), .inr (0, 6, []), .inr (0, 6, []), .inl (2, [some 11, some 12, some 13, none, none]), .inr (0, 400, []), .inr (0, 32, []), .inr (0, 32, []), .inl (2, [some 15, some 16, some 17, none, none]), .inr (0, 400, []), .inr (0, 32, []), .inr (0, 32, []), .inl (2, [some 19, some 20, some 21, none, none]), .inr (0, 400, []), .inr (0, 32, []), .inr (0, 32, [])]
theorem lsO_0 : Ls[0]? = some (.inl (5, [none, none, none, some 1, some 2, some 3, some 4, some 5, some 6, some 7, some 8, some 9, some 10, some 14, some 18, none, none, none])) := rfl
theorem lsA_1 : Ls[1]? = some (.inr (2, 8, [])) := rfl
theorem lsA_2 : Ls[2]? = some (.inr (0, 8, [])) := rfl
theorem lsA_3 : Ls[3]? = some (.inr (0, 8, [])) := rfl
theorem lsA_4 : Ls[4]? = some (.inr (0, 8, [])) := rfl
theorem lsA_5 : Ls[5]? = some (.inr (0, 8, [])) := rfl
theorem lsA_6 : Ls[6]? = some (.inr (0, 8, [])) := rfl
theorem lsA_7 : Ls[7]? = some (.inr (0, 4, [])) := rfl
theorem lsA_8 : Ls[8]? = some (.inr (0, 6, [])) := rfl
theorem lsA_9 : Ls[9]? = some (.inr (0, 6, [])) := rfl
theorem lsO_10 : Ls[10]? = some (.inl (2, [some 11, some 12, some 13, none, none])) := rfl
theorem lsA_11 : Ls[11]? = some (.inr (0, 400, [])) := rfl
theorem lsA_12 : Ls[12]? = some (.inr (0, 32, [])) := rfl
theorem lsA_13 : Ls[13]? = some (.inr (0, 32, [])) := rfl
theorem lsO_14 : Ls[14]? = some (.inl (2, [some 15, some 16, some 17, none, none])) := rfl
theorem lsA_15 : Ls[15]? = some (.inr (0, 400, [])) := rfl
theorem lsA_16 : Ls[16]? = some (.inr (0, 32, [])) := rfl
theorem lsA_17 : Ls[17]? = some (.inr (0, 32, [])) := rfl
theorem lsO_18 : Ls[18]? = some (.inl (2, [some 19, some 20, some 21, none, none])) := rfl
theorem lsA_19 : Ls[19]? = some (.inr (0, 400, [])) := rfl
theorem lsA_20 : Ls[20]? = some (.inr (0, 32, [])) := rfl
theorem lsA_21 : Ls[21]? = some (.inr (0, 32, [])) := rfl
abbrev isLs (q : Nat) : Prop := Ls[q]? = some (.inl (2, [some (q + 1), some (q + 2), some (q + 3), none, none])) ∧ Ls[q + 1]? = some (.inr (0, 400, [])) ∧ Ls[q + 2]? = some (.inr (0, 32, [])) ∧ Ls[q + 3]? = some (.inr (0, 32, []))
theorem isLs_10 : isLs 10 := ⟨rfl, rfl, rfl, rfl⟩
theorem isLs_14 : isLs 14 := ⟨rfl, rfl, rfl, rfl⟩
theorem isLs_18 : isLs 18 := ⟨rfl, rfl, rfl, rfl⟩
theorem skvX2_27 : qv_cv RX2 27 yX2_emit cX2_emit 2 none 1 := ⟨⟨gw_ix 245 (by decide +kernel), gw_ix 247 (by decide +kernel), gw_ix 1 (by decide +kernel), gw_ix 101 (by decide +kernel), gw_ix 248 (by decide +kernel)⟩, by decide +kernel⟩
theorem skvX5_66 : qv_cv RX5 66 yX2_becomeOnly cX2_becomeOnly 2 none 1 := ⟨⟨gw_ix 241 (by decide +kernel), gw_ix 242 (by decide +kernel), gw_ix 243 (by decide +kernel), gw_ix 101 (by decide +kernel), gw_ix 244 (by decide +kernel)⟩, by decide +kernel⟩
theorem skfX2_11 : Cond.fieldLink RX2 11 (TX2 0).1 (TX2 0).2.1 (TX2 0).2.2.1 ∈ gw_tbl := gw_ix 220 (by decide +kernel)
theorem skfX2_23 : Cond.fieldLink RX2 23 (TX2 3).1 (TX2 3).2.1 (TX2 3).2.2.1 ∈ gw_tbl := gw_ix 223 (by decide +kernel)
theorem skfX5_43 : Cond.fieldLink RX5 43 (TX5 12).1 (TX5 12).2.1 (TX5 12).2.2.1 ∈ gw_tbl := gw_ix 285 (by decide +kernel)
theorem skfX5_47 : Cond.fieldLink RX5 47 (TX5 13).1 (TX5 13).2.1 (TX5 13).2.2.1 ∈ gw_tbl := gw_ix 287 (by decide +kernel)
theorem skfX5_50 : Cond.fieldLink RX5 50 (TX5 14).1 (TX5 14).2.1 (TX5 14).2.2.1 ∈ gw_tbl := gw_ix 289 (by decide +kernel)
theorem skfX5_56 : Cond.fieldLink RX5 56 (TX5 0).1 (TX5 0).2.1 (TX5 0).2.2.1 ∈ gw_tbl := gw_ix 249 (by decide +kernel)
theorem skfX5_60 : Cond.fieldLink RX5 60 (TX5 1).1 (TX5 1).2.1 (TX5 1).2.2.1 ∈ gw_tbl := gw_ix 253 (by decide +kernel)
theorem skfX5_63 : Cond.fieldLink RX5 63 (TX5 2).1 (TX5 2).2.1 (TX5 2).2.2.1 ∈ gw_tbl := gw_ix 256 (by decide +kernel)
theorem skfX5_70 : Cond.fieldLink RX5 70 (TX5 15).1 (TX5 15).2.1 (TX5 15).2.2.1 ∈ gw_tbl := gw_ix 291 (by decide +kernel)
theorem skfX5_73 : Cond.fieldLink RX5 73 (TX5 16).1 (TX5 16).2.1 (TX5 16).2.2.1 ∈ gw_tbl := gw_ix 293 (by decide +kernel)
theorem skfX5_76 : Cond.fieldLink RX5 76 (TX5 17).1 (TX5 17).2.1 (TX5 17).2.2.1 ∈ gw_tbl := gw_ix 295 (by decide +kernel)
def tbsX2_emit : List (Nat × Instr × Nat) := [(0, .aload_n 0, 1), (1, .getfield 23, 3), (4, .aload_n 0, 1), (5, .getfield 11, 3), (8, .arraylength, 1), (9, .if_icmp .ge 23, 3), (12, .aload_n 0, 1), (13, .getfield 11, 3), (16, .aload_n 0, 1), (17, .getfield 23, 3), (20, .iload_n 1, 1), (21, .iastore, 1), (22, .aload_n 0, 1), (23, .dup, 1), (24, .getfield 23, 3), (27, .iconst 1, 1), (28, .iadd, 1), (29, .putfield 23, 3), (32, .return_, 1)]
set_option maxRecDepth 20000 in
theorem dasX2_emit : ∀ x ∈ tbsX2_emit, decode cX2_emit x.1 = .ok x.2 := by decide +kernel
theorem dksX2_emit {i pc n : Nat} {ins : Instr} (h : tbsX2_emit[i]? = some (pc, ins, n)) : decode cX2_emit pc = .ok (ins, n) := dasX2_emit (pc, ins, n) (List.mem_of_getElem? h)
def fsX2_emit (S0 : qv_St) (q : Nat) (x1 : Int32) : Option qv_St :=
  if 400 ≤ (S0.1 q 3) then
    some S0
  else
    qv_ck (S0.1 q 3) 400 <| qv_b (qv_si S0 (q + 1) (Int32.toNatClampNeg (S0.1 q 3)) x1) fun S_1 =>
    qv_b (qv_si S_1 q 3 ((S_1.1 q 3) + 1)) fun S_2 =>
    some S_2
set_option maxRecDepth 20000 in
set_option maxHeartbeats 4000000 in
theorem wsX2_emit (G : qv_GT) (S0 : qv_St) (q : Nat) (x1 : Int32) (hq : isLs q) : ∀ r, fsX2_emit S0 q x1 = some r → Cn G Ls yX2_emit cX2_emit 2 none 1 [.ref (G.2.2.1 q), .int x1] S0 (qe_u r) := by
  refine cn_of (own := RX2) (emb := qe_u) (lv := [(0, .ref (G.2.2.1 q)), (1, .int x1)]) rfl rfl (Nat.le_of_ble_eq_true rfl) rfl (fun X => ?_)
  unfold fsX2_emit
  refine qr_aload_n (n := 1) 0 (dksX2_emit (i := 0) rfl) rfl rfl ?_
  refine qr_geti (n := 4) q 3 (dksX2_emit (i := 1) rfl) rfl hq.1 rfl gnX2 (Nat.le_of_ble_eq_true rfl) skfX2_23 rfl ?_
  refine qr_aload_n (n := 5) 0 (dksX2_emit (i := 2) rfl) rfl rfl ?_
  refine qr_geta (n := 8) q 0 (q + 1) (dksX2_emit (i := 3) rfl) rfl hq.1 rfl gnX2 (Nat.le_of_ble_eq_true rfl) skfX2_11 rfl ?_
  refine qr_alen (n := 9) (q + 1) 400 400 (dksX2_emit (i := 4) rfl) rfl hq.2.1 (by decide) ?_
  refine qr_icmp_ge (t := 32) (n := 12) (dksX2_emit (i := 5) rfl) (by decide) rfl ?_ ?_
  · exact qr_vret (dksX2_emit (i := 18) rfl) rfl rfl
  · refine qr_aload_n (n := 13) 0 (dksX2_emit (i := 6) rfl) rfl rfl ?_
    refine qr_geta (n := 16) q 0 (q + 1) (dksX2_emit (i := 7) rfl) rfl hq.1 rfl gnX2 (Nat.le_of_ble_eq_true rfl) skfX2_11 rfl ?_
    refine qr_aload_n (n := 17) 0 (dksX2_emit (i := 8) rfl) rfl rfl ?_
    refine qr_geti (n := 20) q 3 (dksX2_emit (i := 9) rfl) rfl hq.1 rfl gnX2 (Nat.le_of_ble_eq_true rfl) skfX2_23 rfl ?_
    refine qr_iload_n (n := 21) 1 (dksX2_emit (i := 10) rfl) rfl rfl ?_
    refine qr_iast (n := 22) (q + 1) 400 (dksX2_emit (i := 11) rfl) rfl hq.2.1 (fun S_1 => ?_)
    refine qr_aload_n (n := 23) 0 (dksX2_emit (i := 12) rfl) rfl rfl ?_
    refine qr_dup (n := 24) (dksX2_emit (i := 13) rfl) rfl rfl ?_
    refine qr_geti (n := 27) q 3 (dksX2_emit (i := 14) rfl) rfl hq.1 rfl gnX2 (Nat.le_of_ble_eq_true rfl) skfX2_23 rfl ?_
    refine qr_iconst (n := 28) 1 (dksX2_emit (i := 15) rfl) rfl (by decide) ?_
    refine qr_iadd (n := 29) (dksX2_emit (i := 16) rfl) rfl ?_
    refine qr_puti (n := 32) q 3 (dksX2_emit (i := 17) rfl) rfl hq.1 rfl gnX2 (Nat.le_of_ble_eq_true rfl) skfX2_23 rfl tyX2_ok nmX2 rfl rfl (fun S_2 => ?_)
    exact qr_vret (dksX2_emit (i := 18) rfl) rfl rfl
def tbsX2_becomeOnly : List (Nat × Instr × Nat) := [(0, .aload_n 0, 1), (1, .iconst 0, 1), (2, .putfield 23, 3), (5, .aload_n 0, 1), (6, .iload_n 1, 1), (7, .invokevirtual 27, 3), (10, .aload_n 0, 1), (11, .bipush (-59), 2), (13, .invokevirtual 27, 3), (16, .return_, 1)]
set_option maxRecDepth 20000 in
theorem dasX2_becomeOnly : ∀ x ∈ tbsX2_becomeOnly, decode cX2_becomeOnly x.1 = .ok x.2 := by decide +kernel
theorem dksX2_becomeOnly {i pc n : Nat} {ins : Instr} (h : tbsX2_becomeOnly[i]? = some (pc, ins, n)) : decode cX2_becomeOnly pc = .ok (ins, n) := dasX2_becomeOnly (pc, ins, n) (List.mem_of_getElem? h)
def fsX2_becomeOnly (S0 : qv_St) (q : Nat) (x1 : Int32) : Option qv_St :=
  qv_b (qv_si S0 q 3 0) fun S_1 =>
  (fsX2_emit S_1 q x1).bind fun S_2 =>
  (fsX2_emit S_2 q (-59)).bind fun S_3 =>
  some S_3
set_option maxRecDepth 20000 in
set_option maxHeartbeats 4000000 in
theorem wsX2_becomeOnly (G : qv_GT) (S0 : qv_St) (q : Nat) (x1 : Int32) (hq : isLs q) : ∀ r, fsX2_becomeOnly S0 q x1 = some r → Cn G Ls yX2_becomeOnly cX2_becomeOnly 2 none 2 [.ref (G.2.2.1 q), .int x1] S0 (qe_u r) := by
  refine cn_of (own := RX2) (emb := qe_u) (lv := [(0, .ref (G.2.2.1 q)), (1, .int x1)]) rfl rfl (Nat.le_of_ble_eq_true rfl) rfl (fun X => ?_)
  unfold fsX2_becomeOnly
  refine qr_aload_n (n := 1) 0 (dksX2_becomeOnly (i := 0) rfl) rfl rfl ?_
  refine qr_iconst (n := 2) 0 (dksX2_becomeOnly (i := 1) rfl) rfl (by decide) ?_
  refine qr_puti (n := 5) q 3 (dksX2_becomeOnly (i := 2) rfl) rfl hq.1 rfl gnX2 (Nat.le_of_ble_eq_true rfl) skfX2_23 rfl tyX2_ok nmX2 rfl rfl (fun S_1 => ?_)
  refine qr_aload_n (n := 6) 0 (dksX2_becomeOnly (i := 3) rfl) rfl rfl ?_
  refine qr_iload_n (n := 7) 1 (dksX2_becomeOnly (i := 4) rfl) rfl rfl ?_
  refine qr_cvu (n := 10) q [.int x1] (dksX2_becomeOnly (i := 5) rfl) rfl skvX2_27 rfl rfl (Nat.le_of_ble_eq_true rfl) rfl rfl hq.1 rfl (wsX2_emit G S_1 q x1 hq) (fun S_2 => ?_)
  refine qr_aload_n (n := 11) 0 (dksX2_becomeOnly (i := 6) rfl) rfl rfl ?_
  refine qr_bipush (n := 13) (-59) (dksX2_becomeOnly (i := 7) rfl) rfl (by decide) ?_
  refine qr_cvu (n := 16) q [.int (-59)] (dksX2_becomeOnly (i := 8) rfl) rfl skvX2_27 rfl rfl (Nat.le_of_ble_eq_true rfl) rfl rfl hq.1 rfl (wsX2_emit G S_2 q (-59) hq) (fun S_3 => ?_)
  exact qr_vret (dksX2_becomeOnly (i := 9) rfl) rfl rfl
def tbsX5_clear : List (Nat × Instr × Nat) := [(0, .aload_n 0, 1), (1, .iconst 0, 1), (2, .putfield 56, 3), (5, .aload_n 0, 1), (6, .iconst 0, 1), (7, .putfield 60, 3), (10, .aload_n 0, 1), (11, .iconst 0, 1), (12, .putfield 63, 3), (15, .aload_n 0, 1), (16, .getfield 43, 3), (19, .bipush (-13), 2), (21, .invokevirtual 66, 3), (24, .aload_n 0, 1), (25, .getfield 47, 3), (28, .bipush (-17), 2), (30, .invokevirtual 66, 3), (33, .aload_n 0, 1), (34, .getfield 50, 3), (37, .iconst 0, 1), (38, .invokevirtual 66, 3), (41, .aload_n 0, 1), (42, .iconst 5, 1), (43, .putfield 70, 3), (46, .aload_n 0, 1), (47, .bipush 50, 2), (49, .putfield 73, 3), (52, .aload_n 0, 1), (53, .iconst 0, 1), (54, .putfield 76, 3), (57, .return_, 1)]
set_option maxRecDepth 20000 in
theorem dasX5_clear : ∀ x ∈ tbsX5_clear, decode cX5_clear x.1 = .ok x.2 := by decide +kernel
theorem dksX5_clear {i pc n : Nat} {ins : Instr} (h : tbsX5_clear[i]? = some (pc, ins, n)) : decode cX5_clear pc = .ok (ins, n) := dasX5_clear (pc, ins, n) (List.mem_of_getElem? h)
def fsX5_clear (S0 : qv_St) : Option qv_St :=
  qv_b (qv_si S0 0 0 0) fun S_1 =>
  qv_b (qv_si S_1 0 1 0) fun S_2 =>
  qv_b (qv_si S_2 0 2 0) fun S_3 =>
  (fsX2_becomeOnly S_3 10 (-13)).bind fun S_4 =>
  (fsX2_becomeOnly S_4 14 (-17)).bind fun S_5 =>
  (fsX2_becomeOnly S_5 18 0).bind fun S_6 =>
  qv_b (qv_si S_6 0 15 5) fun S_7 =>
  qv_b (qv_si S_7 0 16 50) fun S_8 =>
  qv_b (qv_si S_8 0 17 0) fun S_9 =>
  some S_9
set_option maxRecDepth 20000 in
set_option maxHeartbeats 4000000 in
theorem wsX5_clear (G : qv_GT) (S0 : qv_St) : ∀ r, fsX5_clear S0 = some r → Cn G Ls yX5_clear cX5_clear 1 none 3 [.ref (G.2.2.1 0)] S0 (qe_u r) := by
  refine cn_of (own := RX5) (emb := qe_u) (lv := [(0, .ref (G.2.2.1 0))]) rfl rfl (Nat.le_of_ble_eq_true rfl) rfl (fun X => ?_)
  unfold fsX5_clear
  refine qr_aload_n (n := 1) 0 (dksX5_clear (i := 0) rfl) rfl rfl ?_
  refine qr_iconst (n := 2) 0 (dksX5_clear (i := 1) rfl) rfl (by decide) ?_
  refine qr_puti (n := 5) 0 0 (dksX5_clear (i := 2) rfl) rfl lsO_0 rfl gnX5 (Nat.le_of_ble_eq_true rfl) skfX5_56 rfl tyX5_ok nmX5 rfl rfl (fun S_1 => ?_)
  refine qr_aload_n (n := 6) 0 (dksX5_clear (i := 3) rfl) rfl rfl ?_
  refine qr_iconst (n := 7) 0 (dksX5_clear (i := 4) rfl) rfl (by decide) ?_
  refine qr_puti (n := 10) 0 1 (dksX5_clear (i := 5) rfl) rfl lsO_0 rfl gnX5 (Nat.le_of_ble_eq_true rfl) skfX5_60 rfl tyX5_ok nmX5 rfl rfl (fun S_2 => ?_)
  refine qr_aload_n (n := 11) 0 (dksX5_clear (i := 6) rfl) rfl rfl ?_
  refine qr_iconst (n := 12) 0 (dksX5_clear (i := 7) rfl) rfl (by decide) ?_
  refine qr_puti (n := 15) 0 2 (dksX5_clear (i := 8) rfl) rfl lsO_0 rfl gnX5 (Nat.le_of_ble_eq_true rfl) skfX5_63 rfl tyX5_ok nmX5 rfl rfl (fun S_3 => ?_)
  refine qr_aload_n (n := 16) 0 (dksX5_clear (i := 9) rfl) rfl rfl ?_
  refine qr_geta (n := 19) 0 12 10 (dksX5_clear (i := 10) rfl) rfl lsO_0 rfl gnX5 (Nat.le_of_ble_eq_true rfl) skfX5_43 rfl ?_
  refine qr_bipush (n := 21) (-13) (dksX5_clear (i := 11) rfl) rfl (by decide) ?_
  refine qr_cvu (n := 24) 10 [.int (-13)] (dksX5_clear (i := 12) rfl) rfl skvX5_66 rfl rfl (Nat.le_of_ble_eq_true rfl) rfl rfl lsO_10 rfl (wsX2_becomeOnly G S_3 10 (-13) isLs_10) (fun S_4 => ?_)
  refine qr_aload_n (n := 25) 0 (dksX5_clear (i := 13) rfl) rfl rfl ?_
  refine qr_geta (n := 28) 0 13 14 (dksX5_clear (i := 14) rfl) rfl lsO_0 rfl gnX5 (Nat.le_of_ble_eq_true rfl) skfX5_47 rfl ?_
  refine qr_bipush (n := 30) (-17) (dksX5_clear (i := 15) rfl) rfl (by decide) ?_
  refine qr_cvu (n := 33) 14 [.int (-17)] (dksX5_clear (i := 16) rfl) rfl skvX5_66 rfl rfl (Nat.le_of_ble_eq_true rfl) rfl rfl lsO_14 rfl (wsX2_becomeOnly G S_4 14 (-17) isLs_14) (fun S_5 => ?_)
  refine qr_aload_n (n := 34) 0 (dksX5_clear (i := 17) rfl) rfl rfl ?_
  refine qr_geta (n := 37) 0 14 18 (dksX5_clear (i := 18) rfl) rfl lsO_0 rfl gnX5 (Nat.le_of_ble_eq_true rfl) skfX5_50 rfl ?_
  refine qr_iconst (n := 38) 0 (dksX5_clear (i := 19) rfl) rfl (by decide) ?_
  refine qr_cvu (n := 41) 18 [.int 0] (dksX5_clear (i := 20) rfl) rfl skvX5_66 rfl rfl (Nat.le_of_ble_eq_true rfl) rfl rfl lsO_18 rfl (wsX2_becomeOnly G S_5 18 0 isLs_18) (fun S_6 => ?_)
  refine qr_aload_n (n := 42) 0 (dksX5_clear (i := 21) rfl) rfl rfl ?_
  refine qr_iconst (n := 43) 5 (dksX5_clear (i := 22) rfl) rfl (by decide) ?_
  refine qr_puti (n := 46) 0 15 (dksX5_clear (i := 23) rfl) rfl lsO_0 rfl gnX5 (Nat.le_of_ble_eq_true rfl) skfX5_70 rfl tyX5_ok nmX5 rfl rfl (fun S_7 => ?_)
  refine qr_aload_n (n := 47) 0 (dksX5_clear (i := 24) rfl) rfl rfl ?_
  refine qr_bipush (n := 49) 50 (dksX5_clear (i := 25) rfl) rfl (by decide) ?_
  refine qr_puti (n := 52) 0 16 (dksX5_clear (i := 26) rfl) rfl lsO_0 rfl gnX5 (Nat.le_of_ble_eq_true rfl) skfX5_73 rfl tyX5_ok nmX5 rfl rfl (fun S_8 => ?_)
  refine qr_aload_n (n := 53) 0 (dksX5_clear (i := 27) rfl) rfl rfl ?_
  refine qr_iconst (n := 54) 0 (dksX5_clear (i := 28) rfl) rfl (by decide) ?_
  refine qr_puti (n := 57) 0 17 (dksX5_clear (i := 29) rfl) rfl lsO_0 rfl gnX5 (Nat.le_of_ble_eq_true rfl) skfX5_76 rfl tyX5_ok nmX5 rfl rfl (fun S_9 => ?_)
  exact qr_vret (dksX5_clear (i := 30) rfl) rfl rfl
def tbX5_init : List (Nat × Instr × Nat) := [(0, .aload_n 0, 1), (1, .invokespecial 3, 3), (4, .aload_n 0, 1), (5, .bipush 8, 2), (7, .newarray .boolean, 2), (9, .putfield 9, 3), (12, .aload_n 0, 1), (13, .bipush 8, 2), (15, .newarray .int, 2), (17, .putfield 15, 3), (20, .aload_n 0, 1), (21, .bipush 8, 2), (23, .newarray .int, 2), (25, .putfield 19, 3), (28, .aload_n 0, 1), (29, .bipush 8, 2), (31, .newarray .int, 2), (33, .putfield 22, 3), (36, .aload_n 0, 1), (37, .bipush 8, 2), (39, .newarray .int, 2), (41, .putfield 25, 3), (44, .aload_n 0, 1), (45, .bipush 8, 2), (47, .newarray .int, 2), (49, .putfield 28, 3), (52, .aload_n 0, 1), (53, .iconst 4, 1), (54, .newarray .int, 2), (56, .putfield 31, 3), (59, .aload_n 0, 1), (60, .bipush 6, 2), (62, .newarray .int, 2), (64, .putfield 34, 3), (67, .aload_n 0, 1), (68, .bipush 6, 2), (70, .newarray .int, 2), (72, .putfield 37, 3), (75, .aload_n 0, 1), (76, .new 40, 3), (79, .dup, 1), (80, .invokespecial 42, 3), (83, .putfield 43, 3), (86, .aload_n 0, 1), (87, .new 40, 3), (90, .dup, 1), (91, .invokespecial 42, 3), (94, .putfield 47, 3), (97, .aload_n 0, 1), (98, .new 40, 3), (101, .dup, 1), (102, .invokespecial 42, 3), (105, .putfield 50, 3), (108, .aload_n 0, 1), (109, .invokevirtual 53, 3), (112, .return_, 1)]
set_option maxRecDepth 20000 in
theorem daX5_init : ∀ x ∈ tbX5_init, decode cX5_init x.1 = .ok x.2 := by decide +kernel
theorem dkX5_init {i pc n : Nat} {ins : Instr} (h : tbX5_init[i]? = some (pc, ins, n)) : decode cX5_init pc = .ok (ins, n) := daX5_init (pc, ins, n) (List.mem_of_getElem? h)
theorem kcl_law : Cond.classLink RX5 40 "QuietTake$Law" ∈ gw_tbl := gw_ix 214 (by decide +kernel)
theorem kin_law : Cond.instantiable RX2 5 ∈ gw_tbl := gw_ix 215 (by decide +kernel)
theorem kini_law : Cond.initialized RX2 ∈ gw_tbl := gw_ix 101 (by decide +kernel)
theorem kcv_law : (Cond.instanceMethod yX2_init ∈ gw_tbl ∧ Cond.initialized yX2_init.cls ∈ gw_tbl ∧ Cond.code yX2_init cX2_init 1 none ∈ gw_tbl) ∧ (yX2_init.cls ≠ "java/lang/invoke/MethodHandle" ∧ yX2_init.cls ≠ "java/lang/invoke/VarHandle" ∧ (parseMethodDescriptor yX2_init.desc).map (fun d => d.parameters.length) = some 0) := ⟨⟨gw_ix 217 (by decide +kernel), gw_ix 101 (by decide +kernel), gw_ix 218 (by decide +kernel)⟩, by decide +kernel⟩
theorem dfX2 : ∀ j, j < 5 → defaultValue (tyX2 j) = vp_V [.null, .null, .null, .int 0, .int 0] j := by
  intro j hj
  rcases (show j = 0 ∨ j = 1 ∨ j = 2 ∨ j = 3 ∨ j = 4 by omega) with rfl | rfl | rfl | rfl | rfl <;> rfl
theorem tkvX5_53 : qv_cv RX5 53 yX5_clear cX5_clear 1 none 0 := ⟨⟨gw_ix 237 (by decide +kernel), gw_ix 239 (by decide +kernel), gw_ix 0 (by decide +kernel), gw_ix 100 (by decide +kernel), gw_ix 240 (by decide +kernel)⟩, by decide +kernel⟩
theorem tkfX5_15 : Cond.fieldLink RX5 15 (TX5 4).1 (TX5 4).2.1 (TX5 4).2.2.1 ∈ gw_tbl := gw_ix 262 (by decide +kernel)
theorem tkfX5_19 : Cond.fieldLink RX5 19 (TX5 5).1 (TX5 5).2.1 (TX5 5).2.2.1 ∈ gw_tbl := gw_ix 265 (by decide +kernel)
theorem tkfX5_22 : Cond.fieldLink RX5 22 (TX5 6).1 (TX5 6).2.1 (TX5 6).2.2.1 ∈ gw_tbl := gw_ix 268 (by decide +kernel)
theorem tkfX5_25 : Cond.fieldLink RX5 25 (TX5 7).1 (TX5 7).2.1 (TX5 7).2.2.1 ∈ gw_tbl := gw_ix 271 (by decide +kernel)
theorem tkfX5_28 : Cond.fieldLink RX5 28 (TX5 8).1 (TX5 8).2.1 (TX5 8).2.2.1 ∈ gw_tbl := gw_ix 274 (by decide +kernel)
theorem tkfX5_31 : Cond.fieldLink RX5 31 (TX5 9).1 (TX5 9).2.1 (TX5 9).2.2.1 ∈ gw_tbl := gw_ix 276 (by decide +kernel)
theorem tkfX5_34 : Cond.fieldLink RX5 34 (TX5 10).1 (TX5 10).2.1 (TX5 10).2.2.1 ∈ gw_tbl := gw_ix 278 (by decide +kernel)
theorem tkfX5_37 : Cond.fieldLink RX5 37 (TX5 11).1 (TX5 11).2.1 (TX5 11).2.2.1 ∈ gw_tbl := gw_ix 282 (by decide +kernel)
theorem tkfX5_43 : Cond.fieldLink RX5 43 (TX5 12).1 (TX5 12).2.1 (TX5 12).2.2.1 ∈ gw_tbl := gw_ix 285 (by decide +kernel)
theorem tkfX5_47 : Cond.fieldLink RX5 47 (TX5 13).1 (TX5 13).2.1 (TX5 13).2.2.1 ∈ gw_tbl := gw_ix 287 (by decide +kernel)
theorem tkfX5_50 : Cond.fieldLink RX5 50 (TX5 14).1 (TX5 14).2.1 (TX5 14).2.2.1 ∈ gw_tbl := gw_ix 289 (by decide +kernel)
theorem tkfX5_9 : Cond.fieldLink RX5 9 (TX5 3).1 (TX5 3).2.1 (TX5 3).2.2.1 ∈ gw_tbl := gw_ix 259 (by decide +kernel)
theorem tkoX5_3 : Cond.methodLink RX5 3 Lib.objectInit ∈ gw_tbl := gw_ix 213 (by decide +kernel)
def qz : qv_St := (fun _ _ => 0, fun _ _ => 0)
theorem scr_some : (fsX5_clear qz).isSome = true := by decide +kernel
def scr_S : qv_St := (fsX5_clear qz).get scr_some
theorem scr_eq : fsX5_clear qz = some scr_S := (Option.some_get scr_some).symm
def bkX5_init (cy ax : Nat → Nat) (B : Nat) : List va_E := qc_es (qc_ad B ax) cy Ls scr_S
set_option maxRecDepth 20000 in
set_option maxHeartbeats 4000000 in
theorem kcX5_init (l : Launch) (D : va_G) (cy ax : Nat → Nat) (B : Nat) : Kc l D cy ax yX5_init cX5_init 1 4 21 1471 [.ref B] B [.inr (5, [.int 0, .int 0, .int 0, .null, .null, .null, .null, .null, .null, .null, .null, .null, .null, .null, .null, .int 0, .int 0, .int 0])] (bkX5_init cy ax B) := by
  refine kc_of (own := RX5) (lv := [(0, .ref B)]) rfl rfl rfl (Nat.le_of_ble_eq_true rfl) rfl rfl (fun X hX => ?_)
  refine qc_aload_n (n := 1) 0 (dkX5_init (i := 0) rfl) rfl rfl ?_
  refine qc_obj (n := 4) (dkX5_init (i := 1) rfl) rfl tkoX5_3 kob1 kob2 rfl (Nat.le_of_ble_eq_true rfl) ?_
  refine qc_aload_n (n := 5) 0 (dkX5_init (i := 2) rfl) rfl rfl ?_
  refine qc_bipush (n := 7) 8 (dkX5_init (i := 3) rfl) rfl (by decide) ?_
  refine qc_arr 2 (n := 9) (r := 1) (8, .inl (fun _ => 0)) (dkX5_init (i := 4) rfl) rfl rfl kac2 rfl (fun _ h => h) (fun _ => rfl) (by decide) (by decide) (by decide) rfl rfl rfl ?_
  refine qc_putF (n := 12) (v := .ref (B + 1)) (es2 := [.inr (5, [.int 0, .int 0, .int 0, .ref (B + 1), .null, .null, .null, .null, .null, .null, .null, .null, .null, .null, .null, .int 0, .int 0, .int 0]), .inl (cy 2, 8, .inl (fun _ => 0))]) 0 3 (dkX5_init (i := 5) rfl) rfl rfl rfl gnX5 (Nat.le_of_ble_eq_true rfl) tkfX5_9 (Nat.le_of_ble_eq_true rfl) tyX5_ok nmX5 rfl rfl rfl rfl rfl ?_
  refine qc_aload_n (n := 13) 0 (dkX5_init (i := 6) rfl) rfl rfl ?_
  refine qc_bipush (n := 15) 8 (dkX5_init (i := 7) rfl) rfl (by decide) ?_
  refine qc_arr 0 (n := 17) (r := 2) (8, .inl (fun _ => 0)) (dkX5_init (i := 8) rfl) rfl rfl kac0 rfl (fun _ h => h) (fun _ => rfl) (by decide) (by decide) (by decide) rfl rfl rfl ?_
  refine qc_putF (n := 20) (v := .ref (B + 2)) (es2 := [.inr (5, [.int 0, .int 0, .int 0, .ref (B + 1), .ref (B + 2), .null, .null, .null, .null, .null, .null, .null, .null, .null, .null, .int 0, .int 0, .int 0]), .inl (cy 2, 8, .inl (fun _ => 0)), .inl (cy 0, 8, .inl (fun _ => 0))]) 0 4 (dkX5_init (i := 9) rfl) rfl rfl rfl gnX5 (Nat.le_of_ble_eq_true rfl) tkfX5_15 (Nat.le_of_ble_eq_true rfl) tyX5_ok nmX5 rfl rfl rfl rfl rfl ?_
  refine qc_aload_n (n := 21) 0 (dkX5_init (i := 10) rfl) rfl rfl ?_
  refine qc_bipush (n := 23) 8 (dkX5_init (i := 11) rfl) rfl (by decide) ?_
  refine qc_arr 0 (n := 25) (r := 3) (8, .inl (fun _ => 0)) (dkX5_init (i := 12) rfl) rfl rfl kac0 rfl (fun _ h => h) (fun _ => rfl) (by decide) (by decide) (by decide) rfl rfl rfl ?_
  refine qc_putF (n := 28) (v := .ref (B + 3)) (es2 := [.inr (5, [.int 0, .int 0, .int 0, .ref (B + 1), .ref (B + 2), .ref (B + 3), .null, .null, .null, .null, .null, .null, .null, .null, .null, .int 0, .int 0, .int 0]), .inl (cy 2, 8, .inl (fun _ => 0)), .inl (cy 0, 8, .inl (fun _ => 0)), .inl (cy 0, 8, .inl (fun _ => 0))]) 0 5 (dkX5_init (i := 13) rfl) rfl rfl rfl gnX5 (Nat.le_of_ble_eq_true rfl) tkfX5_19 (Nat.le_of_ble_eq_true rfl) tyX5_ok nmX5 rfl rfl rfl rfl rfl ?_
  refine qc_aload_n (n := 29) 0 (dkX5_init (i := 14) rfl) rfl rfl ?_
  refine qc_bipush (n := 31) 8 (dkX5_init (i := 15) rfl) rfl (by decide) ?_
  refine qc_arr 0 (n := 33) (r := 4) (8, .inl (fun _ => 0)) (dkX5_init (i := 16) rfl) rfl rfl kac0 rfl (fun _ h => h) (fun _ => rfl) (by decide) (by decide) (by decide) rfl rfl rfl ?_
  refine qc_putF (n := 36) (v := .ref (B + 4)) (es2 := [.inr (5, [.int 0, .int 0, .int 0, .ref (B + 1), .ref (B + 2), .ref (B + 3), .ref (B + 4), .null, .null, .null, .null, .null, .null, .null, .null, .int 0, .int 0, .int 0]), .inl (cy 2, 8, .inl (fun _ => 0)), .inl (cy 0, 8, .inl (fun _ => 0)), .inl (cy 0, 8, .inl (fun _ => 0)), .inl (cy 0, 8, .inl (fun _ => 0))]) 0 6 (dkX5_init (i := 17) rfl) rfl rfl rfl gnX5 (Nat.le_of_ble_eq_true rfl) tkfX5_22 (Nat.le_of_ble_eq_true rfl) tyX5_ok nmX5 rfl rfl rfl rfl rfl ?_
  refine qc_aload_n (n := 37) 0 (dkX5_init (i := 18) rfl) rfl rfl ?_
  refine qc_bipush (n := 39) 8 (dkX5_init (i := 19) rfl) rfl (by decide) ?_
  refine qc_arr 0 (n := 41) (r := 5) (8, .inl (fun _ => 0)) (dkX5_init (i := 20) rfl) rfl rfl kac0 rfl (fun _ h => h) (fun _ => rfl) (by decide) (by decide) (by decide) rfl rfl rfl ?_
  refine qc_putF (n := 44) (v := .ref (B + 5)) (es2 := [.inr (5, [.int 0, .int 0, .int 0, .ref (B + 1), .ref (B + 2), .ref (B + 3), .ref (B + 4), .ref (B + 5), .null, .null, .null, .null, .null, .null, .null, .int 0, .int 0, .int 0]), .inl (cy 2, 8, .inl (fun _ => 0)), .inl (cy 0, 8, .inl (fun _ => 0)), .inl (cy 0, 8, .inl (fun _ => 0)), .inl (cy 0, 8, .inl (fun _ => 0)), .inl (cy 0, 8, .inl (fun _ => 0))]) 0 7 (dkX5_init (i := 21) rfl) rfl rfl rfl gnX5 (Nat.le_of_ble_eq_true rfl) tkfX5_25 (Nat.le_of_ble_eq_true rfl) tyX5_ok nmX5 rfl rfl rfl rfl rfl ?_
  refine qc_aload_n (n := 45) 0 (dkX5_init (i := 22) rfl) rfl rfl ?_
  refine qc_bipush (n := 47) 8 (dkX5_init (i := 23) rfl) rfl (by decide) ?_
  refine qc_arr 0 (n := 49) (r := 6) (8, .inl (fun _ => 0)) (dkX5_init (i := 24) rfl) rfl rfl kac0 rfl (fun _ h => h) (fun _ => rfl) (by decide) (by decide) (by decide) rfl rfl rfl ?_
  refine qc_putF (n := 52) (v := .ref (B + 6)) (es2 := [.inr (5, [.int 0, .int 0, .int 0, .ref (B + 1), .ref (B + 2), .ref (B + 3), .ref (B + 4), .ref (B + 5), .ref (B + 6), .null, .null, .null, .null, .null, .null, .int 0, .int 0, .int 0]), .inl (cy 2, 8, .inl (fun _ => 0)), .inl (cy 0, 8, .inl (fun _ => 0)), .inl (cy 0, 8, .inl (fun _ => 0)), .inl (cy 0, 8, .inl (fun _ => 0)), .inl (cy 0, 8, .inl (fun _ => 0)), .inl (cy 0, 8, .inl (fun _ => 0))]) 0 8 (dkX5_init (i := 25) rfl) rfl rfl rfl gnX5 (Nat.le_of_ble_eq_true rfl) tkfX5_28 (Nat.le_of_ble_eq_true rfl) tyX5_ok nmX5 rfl rfl rfl rfl rfl ?_
  refine qc_aload_n (n := 53) 0 (dkX5_init (i := 26) rfl) rfl rfl ?_
  refine qc_iconst (n := 54) 4 (dkX5_init (i := 27) rfl) rfl (by decide) ?_
  refine qc_arr 0 (n := 56) (r := 7) (4, .inl (fun _ => 0)) (dkX5_init (i := 28) rfl) rfl rfl kac0 rfl (fun _ h => h) (fun _ => rfl) (by decide) (by decide) (by decide) rfl rfl rfl ?_
  refine qc_putF (n := 59) (v := .ref (B + 7)) (es2 := [.inr (5, [.int 0, .int 0, .int 0, .ref (B + 1), .ref (B + 2), .ref (B + 3), .ref (B + 4), .ref (B + 5), .ref (B + 6), .ref (B + 7), .null, .null, .null, .null, .null, .int 0, .int 0, .int 0]), .inl (cy 2, 8, .inl (fun _ => 0)), .inl (cy 0, 8, .inl (fun _ => 0)), .inl (cy 0, 8, .inl (fun _ => 0)), .inl (cy 0, 8, .inl (fun _ => 0)), .inl (cy 0, 8, .inl (fun _ => 0)), .inl (cy 0, 8, .inl (fun _ => 0)), .inl (cy 0, 4, .inl (fun _ => 0))]) 0 9 (dkX5_init (i := 29) rfl) rfl rfl rfl gnX5 (Nat.le_of_ble_eq_true rfl) tkfX5_31 (Nat.le_of_ble_eq_true rfl) tyX5_ok nmX5 rfl rfl rfl rfl rfl ?_
  refine qc_aload_n (n := 60) 0 (dkX5_init (i := 30) rfl) rfl rfl ?_
  refine qc_bipush (n := 62) 6 (dkX5_init (i := 31) rfl) rfl (by decide) ?_
  refine qc_arr 0 (n := 64) (r := 8) (6, .inl (fun _ => 0)) (dkX5_init (i := 32) rfl) rfl rfl kac0 rfl (fun _ h => h) (fun _ => rfl) (by decide) (by decide) (by decide) rfl rfl rfl ?_
  refine qc_putF (n := 67) (v := .ref (B + 8)) (es2 := [.inr (5, [.int 0, .int 0, .int 0, .ref (B + 1), .ref (B + 2), .ref (B + 3), .ref (B + 4), .ref (B + 5), .ref (B + 6), .ref (B + 7), .ref (B + 8), .null, .null, .null, .null, .int 0, .int 0, .int 0]), .inl (cy 2, 8, .inl (fun _ => 0)), .inl (cy 0, 8, .inl (fun _ => 0)), .inl (cy 0, 8, .inl (fun _ => 0)), .inl (cy 0, 8, .inl (fun _ => 0)), .inl (cy 0, 8, .inl (fun _ => 0)), .inl (cy 0, 8, .inl (fun _ => 0)), .inl (cy 0, 4, .inl (fun _ => 0)), .inl (cy 0, 6, .inl (fun _ => 0))]) 0 10 (dkX5_init (i := 33) rfl) rfl rfl rfl gnX5 (Nat.le_of_ble_eq_true rfl) tkfX5_34 (Nat.le_of_ble_eq_true rfl) tyX5_ok nmX5 rfl rfl rfl rfl rfl ?_
  refine qc_aload_n (n := 68) 0 (dkX5_init (i := 34) rfl) rfl rfl ?_
  refine qc_bipush (n := 70) 6 (dkX5_init (i := 35) rfl) rfl (by decide) ?_
  refine qc_arr 0 (n := 72) (r := 9) (6, .inl (fun _ => 0)) (dkX5_init (i := 36) rfl) rfl rfl kac0 rfl (fun _ h => h) (fun _ => rfl) (by decide) (by decide) (by decide) rfl rfl rfl ?_
  refine qc_putF (n := 75) (v := .ref (B + 9)) (es2 := [.inr (5, [.int 0, .int 0, .int 0, .ref (B + 1), .ref (B + 2), .ref (B + 3), .ref (B + 4), .ref (B + 5), .ref (B + 6), .ref (B + 7), .ref (B + 8), .ref (B + 9), .null, .null, .null, .int 0, .int 0, .int 0]), .inl (cy 2, 8, .inl (fun _ => 0)), .inl (cy 0, 8, .inl (fun _ => 0)), .inl (cy 0, 8, .inl (fun _ => 0)), .inl (cy 0, 8, .inl (fun _ => 0)), .inl (cy 0, 8, .inl (fun _ => 0)), .inl (cy 0, 8, .inl (fun _ => 0)), .inl (cy 0, 4, .inl (fun _ => 0)), .inl (cy 0, 6, .inl (fun _ => 0)), .inl (cy 0, 6, .inl (fun _ => 0))]) 0 11 (dkX5_init (i := 37) rfl) rfl rfl rfl gnX5 (Nat.le_of_ble_eq_true rfl) tkfX5_37 (Nat.le_of_ble_eq_true rfl) tyX5_ok nmX5 rfl rfl rfl rfl rfl ?_
  refine qc_aload_n (n := 76) 0 (dkX5_init (i := 38) rfl) rfl rfl ?_
  refine qc_new (n := 79) (r := 10) tyX2 [.null, .null, .null, .int 0, .int 0] (dkX5_init (i := 39) rfl) rfl (ci := 2) rfl gnX2 tyX2_ok dfX2 kcl_law kin_law kini_law rfl rfl rfl ?_
  refine qc_dup (n := 80) (dkX5_init (i := 40) rfl) rfl rfl ?_
  refine qc_callN (n := 83) (w := [.inr (5, [.int 0, .int 0, .int 0, .ref (B + 1), .ref (B + 2), .ref (B + 3), .ref (B + 4), .ref (B + 5), .ref (B + 6), .ref (B + 7), .ref (B + 8), .ref (B + 9), .null, .null, .null, .int 0, .int 0, .int 0]), .inl (cy 2, 8, .inl (fun _ => 0)), .inl (cy 0, 8, .inl (fun _ => 0)), .inl (cy 0, 8, .inl (fun _ => 0)), .inl (cy 0, 8, .inl (fun _ => 0)), .inl (cy 0, 8, .inl (fun _ => 0)), .inl (cy 0, 8, .inl (fun _ => 0)), .inl (cy 0, 4, .inl (fun _ => 0)), .inl (cy 0, 6, .inl (fun _ => 0)), .inl (cy 0, 6, .inl (fun _ => 0))]) (d := [.inr (2, [.null, .null, .null, .int 0, .int 0])]) (d2 := bkX2_init cy (B + 10)) (cN2 := 3) (sN2 := 464) [] (dkX5_init (i := 41) rfl) rfl rfl rfl rfl rfl rfl rfl (fun A U h => h.2.2.2.1) kcv_law (Nat.le_of_ble_eq_true rfl) rfl rfl rfl rfl (kcX2_init l D cy ax (B + 10)) ?_
  refine qc_putF (n := 86) (v := .ref (B + 10)) (es2 := [.inr (5, [.int 0, .int 0, .int 0, .ref (B + 1), .ref (B + 2), .ref (B + 3), .ref (B + 4), .ref (B + 5), .ref (B + 6), .ref (B + 7), .ref (B + 8), .ref (B + 9), .ref (B + 10), .null, .null, .int 0, .int 0, .int 0]), .inl (cy 2, 8, .inl (fun _ => 0)), .inl (cy 0, 8, .inl (fun _ => 0)), .inl (cy 0, 8, .inl (fun _ => 0)), .inl (cy 0, 8, .inl (fun _ => 0)), .inl (cy 0, 8, .inl (fun _ => 0)), .inl (cy 0, 8, .inl (fun _ => 0)), .inl (cy 0, 4, .inl (fun _ => 0)), .inl (cy 0, 6, .inl (fun _ => 0)), .inl (cy 0, 6, .inl (fun _ => 0)), .inr (2, [.ref (B + 11), .ref (B + 12), .ref (B + 13), .int 0, .int 0]), .inl (cy 0, 400, .inl (fun _ => 0)), .inl (cy 0, 32, .inl (fun _ => 0)), .inl (cy 0, 32, .inl (fun _ => 0))]) 0 12 (dkX5_init (i := 42) rfl) rfl rfl rfl gnX5 (Nat.le_of_ble_eq_true rfl) tkfX5_43 (Nat.le_of_ble_eq_true rfl) tyX5_ok nmX5 rfl rfl rfl rfl rfl ?_
  refine qc_aload_n (n := 87) 0 (dkX5_init (i := 43) rfl) rfl rfl ?_
  refine qc_new (n := 90) (r := 14) tyX2 [.null, .null, .null, .int 0, .int 0] (dkX5_init (i := 44) rfl) rfl (ci := 2) rfl gnX2 tyX2_ok dfX2 kcl_law kin_law kini_law rfl rfl rfl ?_
  refine qc_dup (n := 91) (dkX5_init (i := 45) rfl) rfl rfl ?_
  refine qc_callN (n := 94) (w := [.inr (5, [.int 0, .int 0, .int 0, .ref (B + 1), .ref (B + 2), .ref (B + 3), .ref (B + 4), .ref (B + 5), .ref (B + 6), .ref (B + 7), .ref (B + 8), .ref (B + 9), .ref (B + 10), .null, .null, .int 0, .int 0, .int 0]), .inl (cy 2, 8, .inl (fun _ => 0)), .inl (cy 0, 8, .inl (fun _ => 0)), .inl (cy 0, 8, .inl (fun _ => 0)), .inl (cy 0, 8, .inl (fun _ => 0)), .inl (cy 0, 8, .inl (fun _ => 0)), .inl (cy 0, 8, .inl (fun _ => 0)), .inl (cy 0, 4, .inl (fun _ => 0)), .inl (cy 0, 6, .inl (fun _ => 0)), .inl (cy 0, 6, .inl (fun _ => 0)), .inr (2, [.ref (B + 11), .ref (B + 12), .ref (B + 13), .int 0, .int 0]), .inl (cy 0, 400, .inl (fun _ => 0)), .inl (cy 0, 32, .inl (fun _ => 0)), .inl (cy 0, 32, .inl (fun _ => 0))]) (d := [.inr (2, [.null, .null, .null, .int 0, .int 0])]) (d2 := bkX2_init cy (B + 14)) (cN2 := 3) (sN2 := 464) [] (dkX5_init (i := 46) rfl) rfl rfl rfl rfl rfl rfl rfl (fun A U h => h.2.2.2.1) kcv_law (Nat.le_of_ble_eq_true rfl) rfl rfl rfl rfl (kcX2_init l D cy ax (B + 14)) ?_
  refine qc_putF (n := 97) (v := .ref (B + 14)) (es2 := [.inr (5, [.int 0, .int 0, .int 0, .ref (B + 1), .ref (B + 2), .ref (B + 3), .ref (B + 4), .ref (B + 5), .ref (B + 6), .ref (B + 7), .ref (B + 8), .ref (B + 9), .ref (B + 10), .ref (B + 14), .null, .int 0, .int 0, .int 0]), .inl (cy 2, 8, .inl (fun _ => 0)), .inl (cy 0, 8, .inl (fun _ => 0)), .inl (cy 0, 8, .inl (fun _ => 0)), .inl (cy 0, 8, .inl (fun _ => 0)), .inl (cy 0, 8, .inl (fun _ => 0)), .inl (cy 0, 8, .inl (fun _ => 0)), .inl (cy 0, 4, .inl (fun _ => 0)), .inl (cy 0, 6, .inl (fun _ => 0)), .inl (cy 0, 6, .inl (fun _ => 0)), .inr (2, [.ref (B + 11), .ref (B + 12), .ref (B + 13), .int 0, .int 0]), .inl (cy 0, 400, .inl (fun _ => 0)), .inl (cy 0, 32, .inl (fun _ => 0)), .inl (cy 0, 32, .inl (fun _ => 0)), .inr (2, [.ref (B + 15), .ref (B + 16), .ref (B + 17), .int 0, .int 0]), .inl (cy 0, 400, .inl (fun _ => 0)), .inl (cy 0, 32, .inl (fun _ => 0)), .inl (cy 0, 32, .inl (fun _ => 0))]) 0 13 (dkX5_init (i := 47) rfl) rfl rfl rfl gnX5 (Nat.le_of_ble_eq_true rfl) tkfX5_47 (Nat.le_of_ble_eq_true rfl) tyX5_ok nmX5 rfl rfl rfl rfl rfl ?_
  refine qc_aload_n (n := 98) 0 (dkX5_init (i := 48) rfl) rfl rfl ?_
  refine qc_new (n := 101) (r := 18) tyX2 [.null, .null, .null, .int 0, .int 0] (dkX5_init (i := 49) rfl) rfl (ci := 2) rfl gnX2 tyX2_ok dfX2 kcl_law kin_law kini_law rfl rfl rfl ?_
  refine qc_dup (n := 102) (dkX5_init (i := 50) rfl) rfl rfl ?_
  refine qc_callN (n := 105) (w := [.inr (5, [.int 0, .int 0, .int 0, .ref (B + 1), .ref (B + 2), .ref (B + 3), .ref (B + 4), .ref (B + 5), .ref (B + 6), .ref (B + 7), .ref (B + 8), .ref (B + 9), .ref (B + 10), .ref (B + 14), .null, .int 0, .int 0, .int 0]), .inl (cy 2, 8, .inl (fun _ => 0)), .inl (cy 0, 8, .inl (fun _ => 0)), .inl (cy 0, 8, .inl (fun _ => 0)), .inl (cy 0, 8, .inl (fun _ => 0)), .inl (cy 0, 8, .inl (fun _ => 0)), .inl (cy 0, 8, .inl (fun _ => 0)), .inl (cy 0, 4, .inl (fun _ => 0)), .inl (cy 0, 6, .inl (fun _ => 0)), .inl (cy 0, 6, .inl (fun _ => 0)), .inr (2, [.ref (B + 11), .ref (B + 12), .ref (B + 13), .int 0, .int 0]), .inl (cy 0, 400, .inl (fun _ => 0)), .inl (cy 0, 32, .inl (fun _ => 0)), .inl (cy 0, 32, .inl (fun _ => 0)), .inr (2, [.ref (B + 15), .ref (B + 16), .ref (B + 17), .int 0, .int 0]), .inl (cy 0, 400, .inl (fun _ => 0)), .inl (cy 0, 32, .inl (fun _ => 0)), .inl (cy 0, 32, .inl (fun _ => 0))]) (d := [.inr (2, [.null, .null, .null, .int 0, .int 0])]) (d2 := bkX2_init cy (B + 18)) (cN2 := 3) (sN2 := 464) [] (dkX5_init (i := 51) rfl) rfl rfl rfl rfl rfl rfl rfl (fun A U h => h.2.2.2.1) kcv_law (Nat.le_of_ble_eq_true rfl) rfl rfl rfl rfl (kcX2_init l D cy ax (B + 18)) ?_
  refine qc_putF (n := 108) (v := .ref (B + 18)) (es2 := [.inr (5, [.int 0, .int 0, .int 0, .ref (B + 1), .ref (B + 2), .ref (B + 3), .ref (B + 4), .ref (B + 5), .ref (B + 6), .ref (B + 7), .ref (B + 8), .ref (B + 9), .ref (B + 10), .ref (B + 14), .ref (B + 18), .int 0, .int 0, .int 0]), .inl (cy 2, 8, .inl (fun _ => 0)), .inl (cy 0, 8, .inl (fun _ => 0)), .inl (cy 0, 8, .inl (fun _ => 0)), .inl (cy 0, 8, .inl (fun _ => 0)), .inl (cy 0, 8, .inl (fun _ => 0)), .inl (cy 0, 8, .inl (fun _ => 0)), .inl (cy 0, 4, .inl (fun _ => 0)), .inl (cy 0, 6, .inl (fun _ => 0)), .inl (cy 0, 6, .inl (fun _ => 0)), .inr (2, [.ref (B + 11), .ref (B + 12), .ref (B + 13), .int 0, .int 0]), .inl (cy 0, 400, .inl (fun _ => 0)), .inl (cy 0, 32, .inl (fun _ => 0)), .inl (cy 0, 32, .inl (fun _ => 0)), .inr (2, [.ref (B + 15), .ref (B + 16), .ref (B + 17), .int 0, .int 0]), .inl (cy 0, 400, .inl (fun _ => 0)), .inl (cy 0, 32, .inl (fun _ => 0)), .inl (cy 0, 32, .inl (fun _ => 0)), .inr (2, [.ref (B + 19), .ref (B + 20), .ref (B + 21), .int 0, .int 0]), .inl (cy 0, 400, .inl (fun _ => 0)), .inl (cy 0, 32, .inl (fun _ => 0)), .inl (cy 0, 32, .inl (fun _ => 0))]) 0 14 (dkX5_init (i := 52) rfl) rfl rfl rfl gnX5 (Nat.le_of_ble_eq_true rfl) tkfX5_50 (Nat.le_of_ble_eq_true rfl) tyX5_ok nmX5 rfl rfl rfl rfl rfl ?_
  refine qc_vv (L := Ls) (S := qz) (o := (fsX5_clear qz).bind fun S1 => some S1) rfl rfl hX (by rw [show Ls.length = 22 from rfl]) rfl rfl (by rw [qc_es_go]; rfl) (by rw [scr_eq]; rfl) ?_
  refine qr_aload_n (n := 109) 0 (dkX5_init (i := 53) rfl) rfl rfl ?_
  refine qr_cvu (n := 112) 0 [] (dkX5_init (i := 54) rfl) rfl tkvX5_53 rfl rfl (Nat.le_of_ble_eq_true rfl) rfl rfl lsO_0 rfl (wsX5_clear (l, D, qc_ad B ax, cy) qz) (fun S1 => ?_)
  exact qr_vret (dkX5_init (i := 55) rfl) rfl rfl
