def qv_N : Nat := 5000
/-! the reference: cell 0 is the object, the others its arrays: 1 tape, 2 text, 3 tKind, 4 tPlace, 5 tValue, 6 tName, 7 keys, 8 nameOf, 9 noises, 10 isClock, 11 firstOf, 12 everyOf, 13 lastsOf, 14 loudOf, 15 priceOf, 16 places, 17 farOf, 18 shots, 19 longOf, 20 limitOf, 21 move, 22 coinsTold, 23 seed, 24 lawFirst, 25 lawLast, 26 hasTest, 27 testFrom, 28 testMid, 29 testTo, 30 termTo, 31 code, 32 codeInt, 33 waits, 34 variables, 35 pile, 36 now, 37 row, 38 loudBy, 39 history, 40 due, 41 beginBy, 42 inTime, 43 toldPlace, 44 toldSecond, 45 toldNoise, 46 isHeld, 47 heldRows -/
def Fm : List (Option Nat) := [none, some 1, none, some 2, none, some 3, some 4, some 5, some 6, some 7, none, none, none, none, none, none, none, none, none, none, none, some 8, some 9, some 10, some 11, some 12, some 13, some 14, some 15, some 16, some 17, some 18, some 19, some 20, some 21, some 22, some 23, some 24, some 25, none, some 26, some 27, some 28, some 29, some 30, none, some 31, some 32, some 33, none, some 34, some 35, none, some 36, some 37, none, some 38, none, some 39, some 40, none, some 41, none, none, some 42, none, some 43, some 44, some 45, some 46, some 47]
def Lm : List qv_Lc := [.inl (12, Fm), .inr (1, 2000, []), .inr (1, 2000, []), .inr (0, 403, []), .inr (0, 403, []), .inr (0, 403, []), .inr (3, 403, []), .inr (3, 22, []), .inr (3, 18, []), .inr (0, 2, []), .inr (2, 16, []), .inr (0, 16, []), .inr (0, 16, []), .inr (0, 16, []), .inr (0, 16, []), .inr (0, 16, []), .inr (0, 2, []), .inr (0, 8, []), .inr (0, 2, []), .inr (0, 12, []), .inr (0, 12, []), .inr (0, 2, []), .inr (0, 2, []), .inr (0, 2, []), .inr (0, 6, []), .inr (0, 6, []), .inr (2, 260, []), .inr (0, 260, []), .inr (0, 260, []), .inr (0, 260, []), .inr (0, 260, []), .inr (0, 840, []), .inr (0, 840, []), .inr (0, 64, []), .inr (0, 9, []), .inr (0, 400, []), .inr (0, 32, []), .inr (0, 32, []), .inr (0, 1620, []), .inr (0, 1280, []), .inr (0, 5, []), .inr (0, 8100, []), .inr (2, 32, []), .inr (0, 20, []), .inr (0, 20, []), .inr (0, 20, []), .inr (2, 3, []), .inr (0, 96, [])]
theorem lmO : Lm[0]? = some (.inl (12, Fm)) := rfl
theorem lmA_1 : Lm[1]? = some (.inr (1, 2000, [])) := rfl
theorem lmA_2 : Lm[2]? = some (.inr (1, 2000, [])) := rfl
theorem lmA_3 : Lm[3]? = some (.inr (0, 403, [])) := rfl
theorem lmA_4 : Lm[4]? = some (.inr (0, 403, [])) := rfl
theorem lmA_5 : Lm[5]? = some (.inr (0, 403, [])) := rfl
theorem lmA_6 : Lm[6]? = some (.inr (3, 403, [])) := rfl
theorem lmA_7 : Lm[7]? = some (.inr (3, 22, [])) := rfl
theorem lmA_8 : Lm[8]? = some (.inr (3, 18, [])) := rfl
theorem lmA_9 : Lm[9]? = some (.inr (0, 2, [])) := rfl
theorem lmA_10 : Lm[10]? = some (.inr (2, 16, [])) := rfl
theorem lmA_11 : Lm[11]? = some (.inr (0, 16, [])) := rfl
theorem lmA_12 : Lm[12]? = some (.inr (0, 16, [])) := rfl
theorem lmA_13 : Lm[13]? = some (.inr (0, 16, [])) := rfl
theorem lmA_14 : Lm[14]? = some (.inr (0, 16, [])) := rfl
theorem lmA_15 : Lm[15]? = some (.inr (0, 16, [])) := rfl
theorem lmA_16 : Lm[16]? = some (.inr (0, 2, [])) := rfl
theorem lmA_17 : Lm[17]? = some (.inr (0, 8, [])) := rfl
theorem lmA_18 : Lm[18]? = some (.inr (0, 2, [])) := rfl
theorem lmA_19 : Lm[19]? = some (.inr (0, 12, [])) := rfl
theorem lmA_20 : Lm[20]? = some (.inr (0, 12, [])) := rfl
theorem lmA_21 : Lm[21]? = some (.inr (0, 2, [])) := rfl
theorem lmA_22 : Lm[22]? = some (.inr (0, 2, [])) := rfl
theorem lmA_23 : Lm[23]? = some (.inr (0, 2, [])) := rfl
theorem lmA_24 : Lm[24]? = some (.inr (0, 6, [])) := rfl
theorem lmA_25 : Lm[25]? = some (.inr (0, 6, [])) := rfl
theorem lmA_26 : Lm[26]? = some (.inr (2, 260, [])) := rfl
theorem lmA_27 : Lm[27]? = some (.inr (0, 260, [])) := rfl
theorem lmA_28 : Lm[28]? = some (.inr (0, 260, [])) := rfl
theorem lmA_29 : Lm[29]? = some (.inr (0, 260, [])) := rfl
theorem lmA_30 : Lm[30]? = some (.inr (0, 260, [])) := rfl
theorem lmA_31 : Lm[31]? = some (.inr (0, 840, [])) := rfl
theorem lmA_32 : Lm[32]? = some (.inr (0, 840, [])) := rfl
theorem lmA_33 : Lm[33]? = some (.inr (0, 64, [])) := rfl
theorem lmA_34 : Lm[34]? = some (.inr (0, 9, [])) := rfl
theorem lmA_35 : Lm[35]? = some (.inr (0, 400, [])) := rfl
theorem lmA_36 : Lm[36]? = some (.inr (0, 32, [])) := rfl
theorem lmA_37 : Lm[37]? = some (.inr (0, 32, [])) := rfl
theorem lmA_38 : Lm[38]? = some (.inr (0, 1620, [])) := rfl
theorem lmA_39 : Lm[39]? = some (.inr (0, 1280, [])) := rfl
theorem lmA_40 : Lm[40]? = some (.inr (0, 5, [])) := rfl
theorem lmA_41 : Lm[41]? = some (.inr (0, 8100, [])) := rfl
theorem lmA_42 : Lm[42]? = some (.inr (2, 32, [])) := rfl
theorem lmA_43 : Lm[43]? = some (.inr (0, 20, [])) := rfl
theorem lmA_44 : Lm[44]? = some (.inr (0, 20, [])) := rfl
theorem lmA_45 : Lm[45]? = some (.inr (0, 20, [])) := rfl
theorem lmA_46 : Lm[46]? = some (.inr (2, 3, [])) := rfl
theorem lmA_47 : Lm[47]? = some (.inr (0, 96, [])) := rfl
theorem kv12_178 : qv_cv RX12 178 yX12_put cX12_put 3 none 1 := ⟨⟨gw_ix 1448 (by decide +kernel), gw_ix 1450 (by decide +kernel), gw_ix 35 (by decide +kernel), gw_ix 109 (by decide +kernel), gw_ix 1451 (by decide +kernel)⟩, by decide +kernel⟩
theorem kf12_13 : Cond.fieldLink RX12 13 (TX12 1).1 (TX12 1).2.1 (TX12 1).2.2.1 ∈ gw_tbl := gw_ix 1231 (by decide +kernel)
theorem kf12_17 : Cond.fieldLink RX12 17 (TX12 3).1 (TX12 3).2.1 (TX12 3).2.2.1 ∈ gw_tbl := gw_ix 1233 (by decide +kernel)
theorem kf12_175 : Cond.fieldLink RX12 175 (TX12 2).1 (TX12 2).2.1 (TX12 2).2.2.1 ∈ gw_tbl := gw_ix 1232 (by decide +kernel)
theorem kf12_181 : Cond.fieldLink RX12 181 (TX12 4).1 (TX12 4).2.1 (TX12 4).2.2.1 ∈ gw_tbl := gw_ix 1234 (by decide +kernel)
