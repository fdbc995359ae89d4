/-! the class: its cells: 0 QuietTake, 1 Tape, 3 Tokens, 7 Reader, 9 Script, 19 Law, 23 Law, 27 Law, 31 State, 36 History, 38 State, 239 State, 244 State, 249 State, 254 Ears, 260 Survey, 263 Plan, 268 Track; cells in the order in which they are made -/
def kRing : List Nat := [38, 43, 48, 53, 58, 63, 68, 73, 78, 83, 88, 93, 98, 103, 108, 113, 118, 123, 128, 133, 138, 143, 148, 153, 158, 163, 168, 173, 178, 183, 188, 193, 198, 203, 208, 213, 218, 223, 228, 233]
def kSlots : List Nat := [239, 244, 249]
def Lk : List qv_Lc := [.inl (11, [some 1, some 3, some 7, some 9, some 31, some 36, some 238, none, some 254, some 260, some 263, some 268]), .inl (8, [some 2, none]), .inr (1, 2000, []), .inl (9, [some 4, some 5, some 6, none, none]), .inr (0, 401, []), .inr (0, 401, []), .inr (3, 401, []), .inl (4, [some 3, some 8, none, none, none, none, none, none, none, none]), .inr (3, 18, []), .inl (5, [none, none, none, some 10, some 11, some 12, some 13, some 14, some 15, some 16, some 17, some 18, some 19, some 23, some 27, none, none, none]), .inr (2, 8, []), .inr (0, 8, []), .inr (0, 8, []), .inr (0, 8, []), .inr (0, 8, []), .inr (0, 8, []), .inr (0, 4, []), .inr (0, 6, []), .inr (0, 6, []), .inl (2, [some 20, some 21, some 22, none, none]), .inr (0, 400, []), .inr (0, 32, []), .inr (0, 32, []), .inl (2, [some 24, some 25, some 26, none, none]), .inr (0, 400, []), .inr (0, 32, []), .inr (0, 32, []), .inl (2, [some 28, some 29, some 30, none, none]), .inr (0, 400, []), .inr (0, 32, []), .inr (0, 32, []), .inl (6, [none, none, none, none, some 32, some 33, some 34, some 35]), .inr (0, 8, []), .inr (0, 6, []), .inr (0, 6, []), .inr (0, 6, []), .inl (1, [some 37, none, none]), .inr (4, 40, kRing), .inl (6, [none, none, none, none, some 39, some 40, some 41, some 42]), .inr (0, 8, []), .inr (0, 6, []), .inr (0, 6, []), .inr (0, 6, []), .inl (6, [none, none, none, none, some 44, some 45, some 46, some 47]), .inr (0, 8, []), .inr (0, 6, []), .inr (0, 6, []), .inr (0, 6, []), .inl (6, [none, none, none, none, some 49, some 50, some 51, some 52]), .inr (0, 8, []), .inr (0, 6, []), .inr (0, 6, []), .inr (0, 6, []), .inl (6, [none, none, none, none, some 54, some 55, some 56, some 57]), .inr (0, 8, []), .inr (0, 6, []), .inr (0, 6, []), .inr (0, 6, []), .inl (6, [none, none, none, none, some 59, some 60, some 61, some 62]), .inr (0, 8, []), .inr (0, 6, []), .inr (0, 6, []), .inr (0, 6, []), .inl (6, [none, none, none, none, some 64, some 65, some 66, some 67]), .inr (0, 8, []), .inr (0, 6, []), .inr (0, 6, []), .inr (0, 6, []), .inl (6, [none, none, none, none, some 69, some 70, some 71, some 72]), .inr (0, 8, []), .inr (0, 6, []), .inr (0, 6, []), .inr (0, 6, []), .inl (6, [none, none, none, none, some 74, some 75, some 76, some 77]), .inr (0, 8, []), .inr (0, 6, []), .inr (0, 6, []), .inr (0, 6, []), .inl (6, [none, none, none, none, some 79, some 80, some 81, some 82]), .inr (0, 8, []), .inr (0, 6, []), .inr (0, 6, []), .inr (0, 6, []), .inl (6, [none, none, none, none, some 84, some 85, some 86, some 87]), .inr (0, 8, []), .inr (0, 6, []), .inr (0, 6, []), .inr (0, 6, []), .inl (6, [none, none, none, none, some 89, some 90, some 91, some 92]), .inr (0, 8, []), .inr (0, 6, []), .inr (0, 6, []), .inr (0, 6, []), .inl (6, [none, none, none, none, some 94, some 95, some 96, some 97]), .inr (0, 8, []), .inr (0, 6, []), .inr (0, 6, []), .inr (0, 6, []), .inl (6, [none, none, none, none, some 99, some 100, some 101, some 102]), .inr (0, 8, []), .inr (0, 6, []), .inr (0, 6, []), .inr (0, 6, []), .inl (6, [none, none, none, none, some 104, some 105, some 106, some 107]), .inr (0, 8, []), .inr (0, 6, []), .inr (0, 6, []), .inr (0, 6, []), .inl (6, [none, none, none, none, some 109, some 110, some 111, some 112]), .inr (0, 8, []), .inr (0, 6, []), .inr (0, 6, []), .inr (0, 6, []), .inl (6, [none, none, none, none, some 114, some 115, some 116, some 117]), .inr (0, 8, []), .inr (0, 6, []), .inr (0, 6, []), .inr (0, 6, []), .inl (6, [none, none, none, none, some 119, some 120, some 121, some 122]), .inr (0, 8, []), .inr (0, 6, []), .inr (0, 6, []), .inr (0, 6, []), .inl (6, [none, none, none, none, some 124, some 125, some 126, some 127]), .inr (0, 8, []), .inr (0, 6, []), .inr (0, 6, []), .inr (0, 6, []), .inl (6, [none, none, none, none, some 129, some 130, some 131, some 132]), .inr (0, 8, []), .inr (0, 6, []), .inr (0, 6, []), .inr (0, 6, []), .inl (6, [none, none, none, none, some 134, some 135, some 136, some 137]), .inr (0, 8, []), .inr (0, 6, []), .inr (0, 6, []), .inr (0, 6, []), .inl (6, [none, none, none, none, some 139, some 140, some 141, some 142]), .inr (0, 8, []), .inr (0, 6, []), .inr (0, 6, []), .inr (0, 6, []), .inl (6, [none, none, none, none, some 144, some 145, some 146, some 147]), .inr (0, 8, []), .inr (0, 6, []), .inr (0, 6, []), .inr (0, 6, []), .inl (6, [none, none, none, none, some 149, some 150, some 151, some 152]), .inr (0, 8, []), .inr (0, 6, []), .inr (0, 6, []), .inr (0, 6, []), .inl (6, [none, none, none, none, some 154, some 155, some 156, some 157]), .inr (0, 8, []), .inr (0, 6, []), .inr (0, 6, []), .inr (0, 6, []), .inl (6, [none, none, none, none, some 159, some 160, some 161, some 162]), .inr (0, 8, []), .inr (0, 6, []), .inr (0, 6, []), .inr (0, 6, []), .inl (6, [none, none, none, none, some 164, some 165, some 166, some 167]), .inr (0, 8, []), .inr (0, 6, []), .inr (0, 6, []), .inr (0, 6, []), .inl (6, [none, none, none, none, some 169, some 170, some 171, some 172]), .inr (0, 8, []), .inr (0, 6, []), .inr (0, 6, []), .inr (0, 6, []), .inl (6, [none, none, none, none, some 174, some 175, some 176, some 177]), .inr (0, 8, []), .inr (0, 6, []), .inr (0, 6, []), .inr (0, 6, []), .inl (6, [none, none, none, none, some 179, some 180, some 181, some 182]), .inr (0, 8, []), .inr (0, 6, []), .inr (0, 6, []), .inr (0, 6, []), .inl (6, [none, none, none, none, some 184, some 185, some 186, some 187]), .inr (0, 8, []), .inr (0, 6, []), .inr (0, 6, []), .inr (0, 6, []), .inl (6, [none, none, none, none, some 189, some 190, some 191, some 192]), .inr (0, 8, []), .inr (0, 6, []), .inr (0, 6, []), .inr (0, 6, []), .inl (6, [none, none, none, none, some 194, some 195, some 196, some 197]), .inr (0, 8, []), .inr (0, 6, []), .inr (0, 6, []), .inr (0, 6, []), .inl (6, [none, none, none, none, some 199, some 200, some 201, some 202]), .inr (0, 8, []), .inr (0, 6, []), .inr (0, 6, []), .inr (0, 6, []), .inl (6, [none, none, none, none, some 204, some 205, some 206, some 207]), .inr (0, 8, []), .inr (0, 6, []), .inr (0, 6, []), .inr (0, 6, []), .inl (6, [none, none, none, none, some 209, some 210, some 211, some 212]), .inr (0, 8, []), .inr (0, 6, []), .inr (0, 6, []), .inr (0, 6, []), .inl (6, [none, none, none, none, some 214, some 215, some 216, some 217]), .inr (0, 8, []), .inr (0, 6, []), .inr (0, 6, []), .inr (0, 6, []), .inl (6, [none, none, none, none, some 219, some 220, some 221, some 222]), .inr (0, 8, []), .inr (0, 6, []), .inr (0, 6, []), .inr (0, 6, []), .inl (6, [none, none, none, none, some 224, some 225, some 226, some 227]), .inr (0, 8, []), .inr (0, 6, []), .inr (0, 6, []), .inr (0, 6, []), .inl (6, [none, none, none, none, some 229, some 230, some 231, some 232]), .inr (0, 8, []), .inr (0, 6, []), .inr (0, 6, []), .inr (0, 6, []), .inl (6, [none, none, none, none, some 234, some 235, some 236, some 237]), .inr (0, 8, []), .inr (0, 6, []), .inr (0, 6, []), .inr (0, 6, []), .inr (4, 3, kSlots), .inl (6, [none, none, none, none, some 240, some 241, some 242, some 243]), .inr (0, 8, []), .inr (0, 6, []), .inr (0, 6, []), .inr (0, 6, []), .inl (6, [none, none, none, none, some 245, some 246, some 247, some 248]), .inr (0, 8, []), .inr (0, 6, []), .inr (0, 6, []), .inr (0, 6, []), .inl (6, [none, none, none, none, some 250, some 251, some 252, some 253]), .inr (0, 8, []), .inr (0, 6, []), .inr (0, 6, []), .inr (0, 6, []), .inl (0, [some 9, some 255, some 256, some 257, some 258, some 259, none]), .inr (0, 9, []), .inr (0, 9, []), .inr (0, 9, []), .inr (0, 8, []), .inr (0, 8, []), .inl (7, [some 9, some 31, some 254, some 261, some 262, none]), .inr (0, 1545, []), .inr (0, 1545, []), .inl (3, [some 9, some 31, some 260, some 264, some 265, some 266, some 267, none]), .inr (0, 5, []), .inr (0, 5, []), .inr (0, 32, []), .inr (0, 5, []), .inl (10, [some 9, some 254, some 269, none]), .inr (0, 1000, [])]
set_option maxRecDepth 20000 in
theorem lkO_0 : Lk[0]? = some (.inl (11, [some 1, some 3, some 7, some 9, some 31, some 36, some 238, none, some 254, some 260, some 263, some 268])) := rfl
set_option maxRecDepth 20000 in
theorem lkO_1 : Lk[1]? = some (.inl (8, [some 2, none])) := rfl
set_option maxRecDepth 20000 in
theorem lkA_2 : Lk[2]? = some (.inr (1, 2000, [])) := rfl
set_option maxRecDepth 20000 in
theorem lkO_3 : Lk[3]? = some (.inl (9, [some 4, some 5, some 6, none, none])) := rfl
set_option maxRecDepth 20000 in
theorem lkA_4 : Lk[4]? = some (.inr (0, 401, [])) := rfl
set_option maxRecDepth 20000 in
theorem lkA_5 : Lk[5]? = some (.inr (0, 401, [])) := rfl
set_option maxRecDepth 20000 in
theorem lkA_6 : Lk[6]? = some (.inr (3, 401, [])) := rfl
set_option maxRecDepth 20000 in
theorem lkO_7 : Lk[7]? = some (.inl (4, [some 3, some 8, none, none, none, none, none, none, none, none])) := rfl
set_option maxRecDepth 20000 in
theorem lkA_8 : Lk[8]? = some (.inr (3, 18, [])) := rfl
set_option maxRecDepth 20000 in
theorem lkO_9 : Lk[9]? = some (.inl (5, [none, none, none, some 10, some 11, some 12, some 13, some 14, some 15, some 16, some 17, some 18, some 19, some 23, some 27, none, none, none])) := rfl
set_option maxRecDepth 20000 in
theorem lkA_10 : Lk[10]? = some (.inr (2, 8, [])) := rfl
set_option maxRecDepth 20000 in
theorem lkA_11 : Lk[11]? = some (.inr (0, 8, [])) := rfl
set_option maxRecDepth 20000 in
theorem lkA_12 : Lk[12]? = some (.inr (0, 8, [])) := rfl
set_option maxRecDepth 20000 in
theorem lkA_13 : Lk[13]? = some (.inr (0, 8, [])) := rfl
set_option maxRecDepth 20000 in
theorem lkA_14 : Lk[14]? = some (.inr (0, 8, [])) := rfl
set_option maxRecDepth 20000 in
theorem lkA_15 : Lk[15]? = some (.inr (0, 8, [])) := rfl
set_option maxRecDepth 20000 in
theorem lkA_16 : Lk[16]? = some (.inr (0, 4, [])) := rfl
set_option maxRecDepth 20000 in
theorem lkA_17 : Lk[17]? = some (.inr (0, 6, [])) := rfl
set_option maxRecDepth 20000 in
theorem lkA_18 : Lk[18]? = some (.inr (0, 6, [])) := rfl
set_option maxRecDepth 20000 in
theorem lkO_19 : Lk[19]? = some (.inl (2, [some 20, some 21, some 22, none, none])) := rfl
set_option maxRecDepth 20000 in
theorem lkA_20 : Lk[20]? = some (.inr (0, 400, [])) := rfl
set_option maxRecDepth 20000 in
theorem lkA_21 : Lk[21]? = some (.inr (0, 32, [])) := rfl
set_option maxRecDepth 20000 in
theorem lkA_22 : Lk[22]? = some (.inr (0, 32, [])) := rfl
set_option maxRecDepth 20000 in
theorem lkO_23 : Lk[23]? = some (.inl (2, [some 24, some 25, some 26, none, none])) := rfl
set_option maxRecDepth 20000 in
theorem lkA_24 : Lk[24]? = some (.inr (0, 400, [])) := rfl
set_option maxRecDepth 20000 in
theorem lkA_25 : Lk[25]? = some (.inr (0, 32, [])) := rfl
set_option maxRecDepth 20000 in
theorem lkA_26 : Lk[26]? = some (.inr (0, 32, [])) := rfl
set_option maxRecDepth 20000 in
theorem lkO_27 : Lk[27]? = some (.inl (2, [some 28, some 29, some 30, none, none])) := rfl
set_option maxRecDepth 20000 in
theorem lkA_28 : Lk[28]? = some (.inr (0, 400, [])) := rfl
set_option maxRecDepth 20000 in
theorem lkA_29 : Lk[29]? = some (.inr (0, 32, [])) := rfl
set_option maxRecDepth 20000 in
theorem lkA_30 : Lk[30]? = some (.inr (0, 32, [])) := rfl
set_option maxRecDepth 20000 in
theorem lkO_31 : Lk[31]? = some (.inl (6, [none, none, none, none, some 32, some 33, some 34, some 35])) := rfl
set_option maxRecDepth 20000 in
theorem lkA_32 : Lk[32]? = some (.inr (0, 8, [])) := rfl
set_option maxRecDepth 20000 in
theorem lkA_33 : Lk[33]? = some (.inr (0, 6, [])) := rfl
set_option maxRecDepth 20000 in
theorem lkA_34 : Lk[34]? = some (.inr (0, 6, [])) := rfl
set_option maxRecDepth 20000 in
theorem lkA_35 : Lk[35]? = some (.inr (0, 6, [])) := rfl
set_option maxRecDepth 20000 in
theorem lkO_36 : Lk[36]? = some (.inl (1, [some 37, none, none])) := rfl
set_option maxRecDepth 20000 in
theorem lkA_37 : Lk[37]? = some (.inr (4, 40, kRing)) := rfl
set_option maxRecDepth 20000 in
theorem lkA_238 : Lk[238]? = some (.inr (4, 3, kSlots)) := rfl
set_option maxRecDepth 20000 in
theorem lkO_254 : Lk[254]? = some (.inl (0, [some 9, some 255, some 256, some 257, some 258, some 259, none])) := rfl
set_option maxRecDepth 20000 in
theorem lkA_255 : Lk[255]? = some (.inr (0, 9, [])) := rfl
set_option maxRecDepth 20000 in
theorem lkA_256 : Lk[256]? = some (.inr (0, 9, [])) := rfl
set_option maxRecDepth 20000 in
theorem lkA_257 : Lk[257]? = some (.inr (0, 9, [])) := rfl
set_option maxRecDepth 20000 in
theorem lkA_258 : Lk[258]? = some (.inr (0, 8, [])) := rfl
set_option maxRecDepth 20000 in
theorem lkA_259 : Lk[259]? = some (.inr (0, 8, [])) := rfl
set_option maxRecDepth 20000 in
theorem lkO_260 : Lk[260]? = some (.inl (7, [some 9, some 31, some 254, some 261, some 262, none])) := rfl
set_option maxRecDepth 20000 in
theorem lkA_261 : Lk[261]? = some (.inr (0, 1545, [])) := rfl
set_option maxRecDepth 20000 in
theorem lkA_262 : Lk[262]? = some (.inr (0, 1545, [])) := rfl
set_option maxRecDepth 20000 in
theorem lkO_263 : Lk[263]? = some (.inl (3, [some 9, some 31, some 260, some 264, some 265, some 266, some 267, none])) := rfl
set_option maxRecDepth 20000 in
theorem lkA_264 : Lk[264]? = some (.inr (0, 5, [])) := rfl
set_option maxRecDepth 20000 in
theorem lkA_265 : Lk[265]? = some (.inr (0, 5, [])) := rfl
set_option maxRecDepth 20000 in
theorem lkA_266 : Lk[266]? = some (.inr (0, 32, [])) := rfl
set_option maxRecDepth 20000 in
theorem lkA_267 : Lk[267]? = some (.inr (0, 5, [])) := rfl
set_option maxRecDepth 20000 in
theorem lkO_268 : Lk[268]? = some (.inl (10, [some 9, some 254, some 269, none])) := rfl
set_option maxRecDepth 20000 in
theorem lkA_269 : Lk[269]? = some (.inr (0, 1000, [])) := rfl
abbrev isS (q : Nat) : Prop := Lk[q]? = some (.inl (6, [none, none, none, none, some (q + 1), some (q + 2), some (q + 3), some (q + 4)])) ∧ Lk[q + 1]? = some (.inr (0, 8, [])) ∧ Lk[q + 2]? = some (.inr (0, 6, [])) ∧ Lk[q + 3]? = some (.inr (0, 6, [])) ∧ Lk[q + 4]? = some (.inr (0, 6, []))
abbrev isL (q : Nat) : Prop := Lk[q]? = some (.inl (2, [some (q + 1), some (q + 2), some (q + 3), none, none])) ∧ Lk[q + 1]? = some (.inr (0, 400, [])) ∧ Lk[q + 2]? = some (.inr (0, 32, [])) ∧ Lk[q + 3]? = some (.inr (0, 32, []))
set_option maxRecDepth 20000 in
theorem isS_31 : isS 31 := ⟨rfl, rfl, rfl, rfl, rfl⟩
theorem isL_19 : isL 19 := ⟨rfl, rfl, rfl, rfl⟩
theorem isL_23 : isL 23 := ⟨rfl, rfl, rfl, rfl⟩
theorem isL_27 : isL 27 := ⟨rfl, rfl, rfl, rfl⟩
set_option maxRecDepth 20000 in
theorem isRingA : ∀ b ∈ kRing, isS b := by
  intro b hb
  simp only [kRing, List.mem_cons, List.not_mem_nil, or_false] at hb
  rcases hb with rfl | rfl | rfl | rfl | rfl | rfl | rfl | rfl | rfl | rfl | rfl | rfl | rfl | rfl | rfl | rfl | rfl | rfl | rfl | rfl | rfl | rfl | rfl | rfl | rfl | rfl | rfl | rfl | rfl | rfl | rfl | rfl | rfl | rfl | rfl | rfl | rfl | rfl | rfl | rfl <;> exact ⟨rfl, rfl, rfl, rfl, rfl⟩
set_option maxRecDepth 20000 in
theorem isSlotsA : ∀ b ∈ kSlots, isS b := by
  intro b hb
  simp only [kSlots, List.mem_cons, List.not_mem_nil, or_false] at hb
  rcases hb with rfl | rfl | rfl <;> exact ⟨rfl, rfl, rfl, rfl, rfl⟩
theorem isRing {i b : Nat} (h : kRing[i]? = some b) : isS b := isRingA b (List.mem_of_getElem? h)
theorem isSlots {i b : Nat} (h : kSlots[i]? = some b) : isS b := isSlotsA b (List.mem_of_getElem? h)
theorem kvX0_35 : qv_cs RX0 35 yJ7_fill_53178 cJ7_fill_53178 4 none 2 := ⟨⟨gw_ix 524 (by decide +kernel), gw_ix 513 (by decide +kernel), gw_ix 108 (by decide +kernel), gw_ix 514 (by decide +kernel)⟩, by decide +kernel⟩
theorem kvX2_56 : qv_cs RX2 56 yX2_rankOf cX2_rankOf 1 (some .int) 1 := ⟨⟨gw_ix 831 (by decide +kernel), gw_ix 832 (by decide +kernel), gw_ix 101 (by decide +kernel), gw_ix 833 (by decide +kernel)⟩, by decide +kernel⟩
theorem kvX3_51 : qv_cs RX3 51 yJ7_fill_53178 cJ7_fill_53178 4 none 2 := ⟨⟨gw_ix 1079 (by decide +kernel), gw_ix 513 (by decide +kernel), gw_ix 108 (by decide +kernel), gw_ix 514 (by decide +kernel)⟩, by decide +kernel⟩
theorem kvX3_84 : qv_cs RX3 84 yJ6_bitCount_0f7a4 cJ6_bitCount_0f7a4 1 (some .int) 1 := ⟨⟨gw_ix 1113 (by decide +kernel), gw_ix 1114 (by decide +kernel), gw_ix 117 (by decide +kernel), gw_ix 1115 (by decide +kernel)⟩, by decide +kernel⟩
theorem kvX4_104 : qv_cs RX4 104 yX4_fits cX4_fits 3 (some .boolean) 3 := ⟨⟨gw_ix 785 (by decide +kernel), gw_ix 786 (by decide +kernel), gw_ix 99 (by decide +kernel), gw_ix 787 (by decide +kernel)⟩, by decide +kernel⟩
theorem kvX4_80 : qv_cs RX4 80 yX4_isVar cX4_isVar 1 (some .boolean) 1 := ⟨⟨gw_ix 762 (by decide +kernel), gw_ix 763 (by decide +kernel), gw_ix 99 (by decide +kernel), gw_ix 764 (by decide +kernel)⟩, by decide +kernel⟩
theorem kvX4_84 : qv_cs RX4 84 yX4_isOperator cX4_isOperator 1 (some .boolean) 1 := ⟨⟨gw_ix 765 (by decide +kernel), gw_ix 766 (by decide +kernel), gw_ix 99 (by decide +kernel), gw_ix 767 (by decide +kernel)⟩, by decide +kernel⟩
theorem kvX6_37 : qv_cs RX6 37 yJ7_fill_53178 cJ7_fill_53178 4 none 2 := ⟨⟨gw_ix 512 (by decide +kernel), gw_ix 513 (by decide +kernel), gw_ix 108 (by decide +kernel), gw_ix 514 (by decide +kernel)⟩, by decide +kernel⟩
theorem kvX7_36 : qv_cs RX7 36 yJ7_fill_53178 cJ7_fill_53178 4 none 2 := ⟨⟨gw_ix 916 (by decide +kernel), gw_ix 513 (by decide +kernel), gw_ix 108 (by decide +kernel), gw_ix 514 (by decide +kernel)⟩, by decide +kernel⟩
theorem kvX7_80 : qv_cs RX7 80 yX7_leaderOf cX7_leaderOf 1 (some .int) 1 := ⟨⟨gw_ix 936 (by decide +kernel), gw_ix 937 (by decide +kernel), gw_ix 105 (by decide +kernel), gw_ix 938 (by decide +kernel)⟩, by decide +kernel⟩
theorem kvX7_84 : qv_cs RX7 84 yX7_rustlingOf cX7_rustlingOf 1 (some .int) 1 := ⟨⟨gw_ix 939 (by decide +kernel), gw_ix 940 (by decide +kernel), gw_ix 105 (by decide +kernel), gw_ix 941 (by decide +kernel)⟩, by decide +kernel⟩
theorem kvX7_87 : qv_cs RX7 87 yX7_topOf cX7_topOf 1 (some .int) 1 := ⟨⟨gw_ix 942 (by decide +kernel), gw_ix 943 (by decide +kernel), gw_ix 105 (by decide +kernel), gw_ix 944 (by decide +kernel)⟩, by decide +kernel⟩
theorem kvX7_93 : qv_cs RX7 93 yX7_noiseWithout cX7_noiseWithout 3 (some .int) 2 := ⟨⟨gw_ix 933 (by decide +kernel), gw_ix 934 (by decide +kernel), gw_ix 105 (by decide +kernel), gw_ix 935 (by decide +kernel)⟩, by decide +kernel⟩
theorem kvX9_38 : qv_cs RX9 38 yX9_sortOf cX9_sortOf 1 (some .int) 1 := ⟨⟨gw_ix 590 (by decide +kernel), gw_ix 591 (by decide +kernel), gw_ix 98 (by decide +kernel), gw_ix 592 (by decide +kernel)⟩, by decide +kernel⟩
theorem kvX9_41 : qv_cs RX9 41 yX9_runFrom cX9_runFrom 4 (some .int) 3 := ⟨⟨gw_ix 593 (by decide +kernel), gw_ix 594 (by decide +kernel), gw_ix 98 (by decide +kernel), gw_ix 595 (by decide +kernel)⟩, by decide +kernel⟩
theorem kvX9_45 : qv_cs RX9 45 yX9_kindOf cX9_kindOf 5 (some .int) 4 := ⟨⟨gw_ix 596 (by decide +kernel), gw_ix 597 (by decide +kernel), gw_ix 98 (by decide +kernel), gw_ix 598 (by decide +kernel)⟩, by decide +kernel⟩
theorem kvX9_49 : qv_cs RX9 49 yX9_valueOf cX9_valueOf 8 (some .long) 4 := ⟨⟨gw_ix 714 (by decide +kernel), gw_ix 715 (by decide +kernel), gw_ix 98 (by decide +kernel), gw_ix 716 (by decide +kernel)⟩, by decide +kernel⟩
theorem kvX9_63 : qv_cs RX9 63 yX9_wordOrName cX9_wordOrName 4 (some .int) 3 := ⟨⟨gw_ix 599 (by decide +kernel), gw_ix 600 (by decide +kernel), gw_ix 98 (by decide +kernel), gw_ix 601 (by decide +kernel)⟩, by decide +kernel⟩
theorem kvX9_73 : qv_cs RX9 73 yX9_isWord cX9_isWord 7 (some .boolean) 4 := ⟨⟨gw_ix 602 (by decide +kernel), gw_ix 603 (by decide +kernel), gw_ix 98 (by decide +kernel), gw_ix 604 (by decide +kernel)⟩, by decide +kernel⟩
theorem kvX10_27 : qv_cs RX10 27 yJ7_fill_53178 cJ7_fill_53178 4 none 2 := ⟨⟨gw_ix 519 (by decide +kernel), gw_ix 513 (by decide +kernel), gw_ix 108 (by decide +kernel), gw_ix 514 (by decide +kernel)⟩, by decide +kernel⟩
theorem kvX11_176 : qv_cs RX11 176 yX11_within cX11_within 3 (some .boolean) 3 := ⟨⟨gw_ix 851 (by decide +kernel), gw_ix 789 (by decide +kernel), gw_ix 96 (by decide +kernel), gw_ix 790 (by decide +kernel)⟩, by decide +kernel⟩
theorem kvX11_255 : qv_cs RX11 255 yX7_leaderOf cX7_leaderOf 1 (some .int) 1 := ⟨⟨gw_ix 1042 (by decide +kernel), gw_ix 937 (by decide +kernel), gw_ix 105 (by decide +kernel), gw_ix 938 (by decide +kernel)⟩, by decide +kernel⟩
theorem kvX11_258 : qv_cs RX11 258 yX7_rustlingOf cX7_rustlingOf 1 (some .int) 1 := ⟨⟨gw_ix 1055 (by decide +kernel), gw_ix 940 (by decide +kernel), gw_ix 105 (by decide +kernel), gw_ix 941 (by decide +kernel)⟩, by decide +kernel⟩
theorem kvX11_261 : qv_cs RX11 261 yX7_topOf cX7_topOf 1 (some .int) 1 := ⟨⟨gw_ix 1056 (by decide +kernel), gw_ix 943 (by decide +kernel), gw_ix 105 (by decide +kernel), gw_ix 944 (by decide +kernel)⟩, by decide +kernel⟩
theorem kvX11_294 : qv_cs RX11 294 yJ6_bitCount_0f7a4 cJ6_bitCount_0f7a4 1 (some .int) 1 := ⟨⟨gw_ix 1119 (by decide +kernel), gw_ix 1114 (by decide +kernel), gw_ix 117 (by decide +kernel), gw_ix 1115 (by decide +kernel)⟩, by decide +kernel⟩
theorem kvJ0_1059 : qv_cs RJ0 1059 yJ3_checkIndex_8e157 cJ3_checkIndex_8e157 3 (some .int) 3 := ⟨⟨gw_ix 632 (by decide +kernel), gw_ix 633 (by decide +kernel), gw_ix 112 (by decide +kernel), gw_ix 634 (by decide +kernel)⟩, by decide +kernel⟩
theorem kvJ0_495 : qv_cs RJ0 495 yJ1_charAt_3b067 cJ1_charAt_3b067 2 (some .char) 2 := ⟨⟨gw_ix 624 (by decide +kernel), gw_ix 625 (by decide +kernel), gw_ix 111 (by decide +kernel), gw_ix 626 (by decide +kernel)⟩, by decide +kernel⟩
theorem kvJ0_637 : qv_cs RJ0 637 yJ1_indexOf_4cfef cJ1_indexOf_4cfef 4 (some .int) 4 := ⟨⟨gw_ix 664 (by decide +kernel), gw_ix 665 (by decide +kernel), gw_ix 111 (by decide +kernel), gw_ix 666 (by decide +kernel)⟩, by decide +kernel⟩
theorem kvJ1_88 : qv_cs RJ1 88 yJ1_canEncode_9a6ad cJ1_canEncode_9a6ad 1 (some .boolean) 1 := ⟨⟨gw_ix 667 (by decide +kernel), gw_ix 668 (by decide +kernel), gw_ix 111 (by decide +kernel), gw_ix 669 (by decide +kernel)⟩, by decide +kernel⟩
theorem kvJ1_9 : qv_cs RJ1 9 yJ0_checkIndex_df160 cJ0_checkIndex_df160 2 none 2 := ⟨⟨gw_ix 627 (by decide +kernel), gw_ix 628 (by decide +kernel), gw_ix 110 (by decide +kernel), gw_ix 629 (by decide +kernel)⟩, by decide +kernel⟩
theorem kvJ1_95 : qv_cs RJ1 95 yJ1_indexOfChar_4cfef cJ1_indexOfChar_4cfef 6 (some .int) 4 := ⟨⟨gw_ix 676 (by decide +kernel), gw_ix 677 (by decide +kernel), gw_ix 111 (by decide +kernel), gw_ix 678 (by decide +kernel)⟩, by decide +kernel⟩
theorem kvX0_51 : qv_cv RX0 51 yX0_latestBegin cX0_latestBegin 7 (some .int) 2 := ⟨⟨gw_ix 860 (by decide +kernel), gw_ix 862 (by decide +kernel), gw_ix 22 (by decide +kernel), gw_ix 104 (by decide +kernel), gw_ix 863 (by decide +kernel)⟩, by decide +kernel⟩
theorem kvX0_66 : qv_cv RX0 66 yX0_lot cX0_lot 4 (some .int) 1 := ⟨⟨gw_ix 865 (by decide +kernel), gw_ix 867 (by decide +kernel), gw_ix 23 (by decide +kernel), gw_ix 104 (by decide +kernel), gw_ix 868 (by decide +kernel)⟩, by decide +kernel⟩
theorem kvX0_83 : qv_cv RX0 83 yX2_answer cX2_answer 8 (some .int) 1 := ⟨⟨gw_ix 903 (by decide +kernel), gw_ix 904 (by decide +kernel), gw_ix 905 (by decide +kernel), gw_ix 101 (by decide +kernel), gw_ix 906 (by decide +kernel)⟩, by decide +kernel⟩
theorem kvX1_20 : qv_cv RX1 20 yX6_copy cX6_copy 2 none 1 := ⟨⟨gw_ix 971 (by decide +kernel), gw_ix 972 (by decide +kernel), gw_ix 973 (by decide +kernel), gw_ix 102 (by decide +kernel), gw_ix 974 (by decide +kernel)⟩, by decide +kernel⟩
theorem kvX2_27 : qv_cv RX2 27 yX2_emit cX2_emit 2 none 1 := ⟨⟨gw_ix 245 (by decide +kernel), gw_ix 247 (by decide +kernel), gw_ix 1 (by decide +kernel), gw_ix 101 (by decide +kernel), gw_ix 248 (by decide +kernel)⟩, by decide +kernel⟩
theorem kvX2_37 : qv_cv RX2 37 yX9_kindAt cX9_kindAt 2 (some .int) 1 := ⟨⟨gw_ix 821 (by decide +kernel), gw_ix 727 (by decide +kernel), gw_ix 728 (by decide +kernel), gw_ix 98 (by decide +kernel), gw_ix 729 (by decide +kernel)⟩, by decide +kernel⟩
theorem kvX2_41 : qv_cv RX2 41 yX9_intAt cX9_intAt 2 (some .int) 1 := ⟨⟨gw_ix 822 (by decide +kernel), gw_ix 781 (by decide +kernel), gw_ix 782 (by decide +kernel), gw_ix 98 (by decide +kernel), gw_ix 783 (by decide +kernel)⟩, by decide +kernel⟩
theorem kvX2_44 : qv_cv RX2 44 yX2_putOperator cX2_putOperator 2 none 1 := ⟨⟨gw_ix 823 (by decide +kernel), gw_ix 825 (by decide +kernel), gw_ix 17 (by decide +kernel), gw_ix 101 (by decide +kernel), gw_ix 826 (by decide +kernel)⟩, by decide +kernel⟩
theorem kvX2_47 : qv_cv RX2 47 yX2_emitOperators cX2_emitOperators 2 none 1 := ⟨⟨gw_ix 827 (by decide +kernel), gw_ix 829 (by decide +kernel), gw_ix 18 (by decide +kernel), gw_ix 101 (by decide +kernel), gw_ix 830 (by decide +kernel)⟩, by decide +kernel⟩
theorem kvX2_59 : qv_cv RX2 59 yX2_endSum cX2_endSum 2 none 1 := ⟨⟨gw_ix 835 (by decide +kernel), gw_ix 837 (by decide +kernel), gw_ix 19 (by decide +kernel), gw_ix 101 (by decide +kernel), gw_ix 838 (by decide +kernel)⟩, by decide +kernel⟩
theorem kvX3_44 : qv_cv RX3 44 yX6_isDone cX6_isDone 3 (some .boolean) 2 := ⟨⟨gw_ix 1077 (by decide +kernel), gw_ix 879 (by decide +kernel), gw_ix 880 (by decide +kernel), gw_ix 102 (by decide +kernel), gw_ix 881 (by decide +kernel)⟩, by decide +kernel⟩
theorem kvX3_57 : qv_cv RX3 57 yX7_firstGood cX7_firstGood 7 (some .int) 3 := ⟨⟨gw_ix 1084 (by decide +kernel), gw_ix 1062 (by decide +kernel), gw_ix 1063 (by decide +kernel), gw_ix 105 (by decide +kernel), gw_ix 1064 (by decide +kernel)⟩, by decide +kernel⟩
theorem kvX3_66 : qv_cv RX3 66 yX3_keepIfSooner cX3_keepIfSooner 3 none 2 := ⟨⟨gw_ix 1085 (by decide +kernel), gw_ix 1087 (by decide +kernel), gw_ix 28 (by decide +kernel), gw_ix 106 (by decide +kernel), gw_ix 1088 (by decide +kernel)⟩, by decide +kernel⟩
theorem kvX3_70 : qv_cv RX3 70 yX3_visit cX3_visit 8 none 3 := ⟨⟨gw_ix 1094 (by decide +kernel), gw_ix 1081 (by decide +kernel), gw_ix 1082 (by decide +kernel), gw_ix 106 (by decide +kernel), gw_ix 1083 (by decide +kernel)⟩, by decide +kernel⟩
theorem kvX3_74 : qv_cv RX3 74 yX3_all cX3_all 1 (some .int) 0 := ⟨⟨gw_ix 1089 (by decide +kernel), gw_ix 1090 (by decide +kernel), gw_ix 1091 (by decide +kernel), gw_ix 106 (by decide +kernel), gw_ix 1092 (by decide +kernel)⟩, by decide +kernel⟩
theorem kvX4_101 : qv_cv RX4 101 yX9_intAt cX9_intAt 2 (some .int) 1 := ⟨⟨gw_ix 780 (by decide +kernel), gw_ix 781 (by decide +kernel), gw_ix 782 (by decide +kernel), gw_ix 98 (by decide +kernel), gw_ix 783 (by decide +kernel)⟩, by decide +kernel⟩
theorem kvX4_40 : qv_cv RX4 40 yX9_kindAt cX9_kindAt 2 (some .int) 1 := ⟨⟨gw_ix 726 (by decide +kernel), gw_ix 727 (by decide +kernel), gw_ix 728 (by decide +kernel), gw_ix 98 (by decide +kernel), gw_ix 729 (by decide +kernel)⟩, by decide +kernel⟩
theorem kvX4_44 : qv_cv RX4 44 yX4_passTell cX4_passTell 1 none 0 := ⟨⟨gw_ix 730 (by decide +kernel), gw_ix 732 (by decide +kernel), gw_ix 3 (by decide +kernel), gw_ix 99 (by decide +kernel), gw_ix 733 (by decide +kernel)⟩, by decide +kernel⟩
theorem kvX4_47 : qv_cv RX4 47 yX4_checkNamesAndNumbers cX4_checkNamesAndNumbers 4 none 0 := ⟨⟨gw_ix 768 (by decide +kernel), gw_ix 770 (by decide +kernel), gw_ix 11 (by decide +kernel), gw_ix 99 (by decide +kernel), gw_ix 771 (by decide +kernel)⟩, by decide +kernel⟩
theorem kvX4_53 : qv_cv RX4 53 yX9_placeAt cX9_placeAt 2 (some .int) 1 := ⟨⟨gw_ix 791 (by decide +kernel), gw_ix 792 (by decide +kernel), gw_ix 793 (by decide +kernel), gw_ix 98 (by decide +kernel), gw_ix 794 (by decide +kernel)⟩, by decide +kernel⟩
theorem kvX4_56 : qv_cv RX4 56 yX4_refuse cX4_refuse 3 none 2 := ⟨⟨gw_ix 738 (by decide +kernel), gw_ix 740 (by decide +kernel), gw_ix 5 (by decide +kernel), gw_ix 99 (by decide +kernel), gw_ix 741 (by decide +kernel)⟩, by decide +kernel⟩
theorem kvX4_60 : qv_cv RX4 60 yX4_pass cX4_pass 1 none 0 := ⟨⟨gw_ix 746 (by decide +kernel), gw_ix 748 (by decide +kernel), gw_ix 7 (by decide +kernel), gw_ix 99 (by decide +kernel), gw_ix 749 (by decide +kernel)⟩, by decide +kernel⟩
theorem kvX4_63 : qv_cv RX4 63 yX4_oneMore cX4_oneMore 3 (some .int) 2 := ⟨⟨gw_ix 734 (by decide +kernel), gw_ix 736 (by decide +kernel), gw_ix 4 (by decide +kernel), gw_ix 99 (by decide +kernel), gw_ix 737 (by decide +kernel)⟩, by decide +kernel⟩
theorem kvX4_67 : qv_cv RX4 67 yX4_passNamed cX4_passNamed 3 none 1 := ⟨⟨gw_ix 742 (by decide +kernel), gw_ix 744 (by decide +kernel), gw_ix 6 (by decide +kernel), gw_ix 99 (by decide +kernel), gw_ix 745 (by decide +kernel)⟩, by decide +kernel⟩
theorem kvX4_71 : qv_cv RX4 71 yX4_passLaw cX4_passLaw 2 none 0 := ⟨⟨gw_ix 754 (by decide +kernel), gw_ix 756 (by decide +kernel), gw_ix 9 (by decide +kernel), gw_ix 99 (by decide +kernel), gw_ix 757 (by decide +kernel)⟩, by decide +kernel⟩
theorem kvX4_74 : qv_cv RX4 74 yX4_passOnly cX4_passOnly 2 none 1 := ⟨⟨gw_ix 750 (by decide +kernel), gw_ix 752 (by decide +kernel), gw_ix 8 (by decide +kernel), gw_ix 99 (by decide +kernel), gw_ix 753 (by decide +kernel)⟩, by decide +kernel⟩
theorem kvX4_77 : qv_cv RX4 77 yX4_passSum cX4_passSum 7 none 1 := ⟨⟨gw_ix 758 (by decide +kernel), gw_ix 760 (by decide +kernel), gw_ix 10 (by decide +kernel), gw_ix 99 (by decide +kernel), gw_ix 761 (by decide +kernel)⟩, by decide +kernel⟩
theorem kvX4_93 : qv_cv RX4 93 yX9_valueAt cX9_valueAt 2 (some .long) 1 := ⟨⟨gw_ix 772 (by decide +kernel), gw_ix 773 (by decide +kernel), gw_ix 774 (by decide +kernel), gw_ix 98 (by decide +kernel), gw_ix 775 (by decide +kernel)⟩, by decide +kernel⟩
theorem kvX4_97 : qv_cv RX4 97 yX4_isNewName cX4_isNewName 4 (some .boolean) 1 := ⟨⟨gw_ix 776 (by decide +kernel), gw_ix 778 (by decide +kernel), gw_ix 12 (by decide +kernel), gw_ix 99 (by decide +kernel), gw_ix 779 (by decide +kernel)⟩, by decide +kernel⟩
theorem kvX5_102 : qv_cv RX5 102 yX5_learnShot cX5_learnShot 3 none 2 := ⟨⟨gw_ix 813 (by decide +kernel), gw_ix 815 (by decide +kernel), gw_ix 16 (by decide +kernel), gw_ix 100 (by decide +kernel), gw_ix 816 (by decide +kernel)⟩, by decide +kernel⟩
theorem kvX5_106 : qv_cv RX5 106 yX2_learn cX2_learn 5 none 2 := ⟨⟨gw_ix 817 (by decide +kernel), gw_ix 818 (by decide +kernel), gw_ix 819 (by decide +kernel), gw_ix 101 (by decide +kernel), gw_ix 820 (by decide +kernel)⟩, by decide +kernel⟩
theorem kvX5_53 : qv_cv RX5 53 yX5_clear cX5_clear 1 none 0 := ⟨⟨gw_ix 237 (by decide +kernel), gw_ix 239 (by decide +kernel), gw_ix 0 (by decide +kernel), gw_ix 100 (by decide +kernel), gw_ix 240 (by decide +kernel)⟩, by decide +kernel⟩
theorem kvX5_66 : qv_cv RX5 66 yX2_becomeOnly cX2_becomeOnly 2 none 1 := ⟨⟨gw_ix 241 (by decide +kernel), gw_ix 242 (by decide +kernel), gw_ix 243 (by decide +kernel), gw_ix 101 (by decide +kernel), gw_ix 244 (by decide +kernel)⟩, by decide +kernel⟩
theorem kvX5_84 : qv_cv RX5 84 yX9_kindAt cX9_kindAt 2 (some .int) 1 := ⟨⟨gw_ix 799 (by decide +kernel), gw_ix 727 (by decide +kernel), gw_ix 728 (by decide +kernel), gw_ix 98 (by decide +kernel), gw_ix 729 (by decide +kernel)⟩, by decide +kernel⟩
theorem kvX5_88 : qv_cv RX5 88 yX5_learnTell cX5_learnTell 3 none 2 := ⟨⟨gw_ix 800 (by decide +kernel), gw_ix 802 (by decide +kernel), gw_ix 13 (by decide +kernel), gw_ix 100 (by decide +kernel), gw_ix 803 (by decide +kernel)⟩, by decide +kernel⟩
theorem kvX5_92 : qv_cv RX5 92 yX9_intAt cX9_intAt 2 (some .int) 1 := ⟨⟨gw_ix 804 (by decide +kernel), gw_ix 781 (by decide +kernel), gw_ix 782 (by decide +kernel), gw_ix 98 (by decide +kernel), gw_ix 783 (by decide +kernel)⟩, by decide +kernel⟩
theorem kvX5_95 : qv_cv RX5 95 yX5_learnNoise cX5_learnNoise 5 none 4 := ⟨⟨gw_ix 805 (by decide +kernel), gw_ix 807 (by decide +kernel), gw_ix 14 (by decide +kernel), gw_ix 100 (by decide +kernel), gw_ix 808 (by decide +kernel)⟩, by decide +kernel⟩
theorem kvX5_99 : qv_cv RX5 99 yX5_learnPlace cX5_learnPlace 2 none 1 := ⟨⟨gw_ix 809 (by decide +kernel), gw_ix 811 (by decide +kernel), gw_ix 15 (by decide +kernel), gw_ix 100 (by decide +kernel), gw_ix 812 (by decide +kernel)⟩, by decide +kernel⟩
theorem kvX6_49 : qv_cv RX6 49 yX5_allSeconds cX5_allSeconds 2 (some .int) 1 := ⟨⟨gw_ix 882 (by decide +kernel), gw_ix 883 (by decide +kernel), gw_ix 884 (by decide +kernel), gw_ix 100 (by decide +kernel), gw_ix 885 (by decide +kernel)⟩, by decide +kernel⟩
theorem kvX7_102 : qv_cv RX7 102 yX0_borne cX0_borne 4 (some .int) 3 := ⟨⟨gw_ix 962 (by decide +kernel), gw_ix 950 (by decide +kernel), gw_ix 951 (by decide +kernel), gw_ix 104 (by decide +kernel), gw_ix 952 (by decide +kernel)⟩, by decide +kernel⟩
theorem kvX7_105 : qv_cv RX7 105 yX7_firstUnclear cX7_firstUnclear 7 (some .int) 3 := ⟨⟨gw_ix 1065 (by decide +kernel), gw_ix 1066 (by decide +kernel), gw_ix 1067 (by decide +kernel), gw_ix 105 (by decide +kernel), gw_ix 1068 (by decide +kernel)⟩, by decide +kernel⟩
theorem kvX7_111 : qv_cv RX7 111 yX7_heardOf cX7_heardOf 5 (some .int) 3 := ⟨⟨gw_ix 1132 (by decide +kernel), gw_ix 895 (by decide +kernel), gw_ix 896 (by decide +kernel), gw_ix 105 (by decide +kernel), gw_ix 897 (by decide +kernel)⟩, by decide +kernel⟩
theorem kvX7_55 : qv_cv RX7 55 yX0_ageOf cX0_ageOf 7 (some .int) 3 := ⟨⟨gw_ix 898 (by decide +kernel), gw_ix 857 (by decide +kernel), gw_ix 858 (by decide +kernel), gw_ix 104 (by decide +kernel), gw_ix 859 (by decide +kernel)⟩, by decide +kernel⟩
theorem kvX7_61 : qv_cv RX7 61 yX0_heardOf cX0_heardOf 5 (some .int) 4 := ⟨⟨gw_ix 899 (by decide +kernel), gw_ix 900 (by decide +kernel), gw_ix 901 (by decide +kernel), gw_ix 104 (by decide +kernel), gw_ix 902 (by decide +kernel)⟩, by decide +kernel⟩
theorem kvX7_74 : qv_cv RX7 74 yX0_isRustling cX0_isRustling 4 (some .boolean) 2 := ⟨⟨gw_ix 926 (by decide +kernel), gw_ix 927 (by decide +kernel), gw_ix 928 (by decide +kernel), gw_ix 104 (by decide +kernel), gw_ix 929 (by decide +kernel)⟩, by decide +kernel⟩
theorem kvX7_90 : qv_cv RX7 90 yX7_soundAt cX7_soundAt 8 (some .int) 1 := ⟨⟨gw_ix 921 (by decide +kernel), gw_ix 922 (by decide +kernel), gw_ix 923 (by decide +kernel), gw_ix 105 (by decide +kernel), gw_ix 924 (by decide +kernel)⟩, by decide +kernel⟩
theorem kvX7_96 : qv_cv RX7 96 yX7_noiseAt cX7_noiseAt 2 (some .int) 1 := ⟨⟨gw_ix 961 (by decide +kernel), gw_ix 918 (by decide +kernel), gw_ix 919 (by decide +kernel), gw_ix 105 (by decide +kernel), gw_ix 920 (by decide +kernel)⟩, by decide +kernel⟩
theorem kvX9_34 : qv_cv RX9 34 yX8_byteAt cX8_byteAt 2 (some .int) 1 := ⟨⟨gw_ix 586 (by decide +kernel), gw_ix 587 (by decide +kernel), gw_ix 588 (by decide +kernel), gw_ix 97 (by decide +kernel), gw_ix 589 (by decide +kernel)⟩, by decide +kernel⟩
theorem kvX9_59 : qv_cv RX9 59 yX9_valueAt cX9_valueAt 2 (some .long) 1 := ⟨⟨gw_ix 784 (by decide +kernel), gw_ix 773 (by decide +kernel), gw_ix 774 (by decide +kernel), gw_ix 98 (by decide +kernel), gw_ix 775 (by decide +kernel)⟩, by decide +kernel⟩
theorem kvX9_68 : qv_cv RX9 68 yJ0_indexOf_0f7a4 cJ0_indexOf_0f7a4 2 (some .int) 1 := ⟨⟨gw_ix 655 (by decide +kernel), gw_ix 656 (by decide +kernel), gw_ix 657 (by decide +kernel), gw_ix 110 (by decide +kernel), gw_ix 658 (by decide +kernel)⟩, by decide +kernel⟩
theorem kvX9_79 : qv_cv RX9 79 yJ0_length_8abf5 cJ0_length_8abf5 1 (some .int) 0 := ⟨⟨gw_ix 606 (by decide +kernel), gw_ix 607 (by decide +kernel), gw_ix 608 (by decide +kernel), gw_ix 110 (by decide +kernel), gw_ix 609 (by decide +kernel)⟩, by decide +kernel⟩
theorem kvX9_82 : qv_cv RX9 82 yJ0_charAt_5068e cJ0_charAt_5068e 2 (some .char) 1 := ⟨⟨gw_ix 616 (by decide +kernel), gw_ix 617 (by decide +kernel), gw_ix 618 (by decide +kernel), gw_ix 110 (by decide +kernel), gw_ix 619 (by decide +kernel)⟩, by decide +kernel⟩
theorem kvX10_33 : qv_cv RX10 33 yX10_noiseOf cX10_noiseOf 5 (some .int) 2 := ⟨⟨gw_ix 1158 (by decide +kernel), gw_ix 1160 (by decide +kernel), gw_ix 29 (by decide +kernel), gw_ix 107 (by decide +kernel), gw_ix 1161 (by decide +kernel)⟩, by decide +kernel⟩
theorem kvX10_42 : qv_cv RX10 42 yX0_ageOf cX0_ageOf 7 (some .int) 3 := ⟨⟨gw_ix 1162 (by decide +kernel), gw_ix 857 (by decide +kernel), gw_ix 858 (by decide +kernel), gw_ix 104 (by decide +kernel), gw_ix 859 (by decide +kernel)⟩, by decide +kernel⟩
theorem kvX10_48 : qv_cv RX10 48 yX0_heardOf cX0_heardOf 5 (some .int) 4 := ⟨⟨gw_ix 1163 (by decide +kernel), gw_ix 900 (by decide +kernel), gw_ix 901 (by decide +kernel), gw_ix 104 (by decide +kernel), gw_ix 902 (by decide +kernel)⟩, by decide +kernel⟩
theorem kvX11_100 : qv_cv RX11 100 yX8_add cX8_add 3 none 1 := ⟨⟨gw_ix 570 (by decide +kernel), gw_ix 571 (by decide +kernel), gw_ix 572 (by decide +kernel), gw_ix 97 (by decide +kernel), gw_ix 573 (by decide +kernel)⟩, by decide +kernel⟩
theorem kvX11_104 : qv_cv RX11 104 yX9_cut cX9_cut 5 none 1 := ⟨⟨gw_ix 582 (by decide +kernel), gw_ix 583 (by decide +kernel), gw_ix 584 (by decide +kernel), gw_ix 98 (by decide +kernel), gw_ix 585 (by decide +kernel)⟩, by decide +kernel⟩
theorem kvX11_108 : qv_cv RX11 108 yX4_check cX4_check 2 none 0 := ⟨⟨gw_ix 722 (by decide +kernel), gw_ix 723 (by decide +kernel), gw_ix 724 (by decide +kernel), gw_ix 99 (by decide +kernel), gw_ix 725 (by decide +kernel)⟩, by decide +kernel⟩
theorem kvX11_114 : qv_cv RX11 114 yX5_learn cX5_learn 4 none 1 := ⟨⟨gw_ix 795 (by decide +kernel), gw_ix 796 (by decide +kernel), gw_ix 797 (by decide +kernel), gw_ix 100 (by decide +kernel), gw_ix 798 (by decide +kernel)⟩, by decide +kernel⟩
theorem kvX11_120 : qv_cv RX11 120 yX11_isNoise cX11_isNoise 2 (some .boolean) 1 := ⟨⟨gw_ix 847 (by decide +kernel), gw_ix 849 (by decide +kernel), gw_ix 20 (by decide +kernel), gw_ix 96 (by decide +kernel), gw_ix 850 (by decide +kernel)⟩, by decide +kernel⟩
theorem kvX11_138 : qv_cv RX11 138 yX11_ageNow cX11_ageNow 2 (some .int) 1 := ⟨⟨gw_ix 852 (by decide +kernel), gw_ix 854 (by decide +kernel), gw_ix 21 (by decide +kernel), gw_ix 96 (by decide +kernel), gw_ix 855 (by decide +kernel)⟩, by decide +kernel⟩
theorem kvX11_151 : qv_cv RX11 151 yX11_isShot cX11_isShot 2 (some .boolean) 1 := ⟨⟨gw_ix 874 (by decide +kernel), gw_ix 876 (by decide +kernel), gw_ix 24 (by decide +kernel), gw_ix 96 (by decide +kernel), gw_ix 877 (by decide +kernel)⟩, by decide +kernel⟩
theorem kvX11_163 : qv_cv RX11 163 yX6_isDone cX6_isDone 3 (some .boolean) 2 := ⟨⟨gw_ix 878 (by decide +kernel), gw_ix 879 (by decide +kernel), gw_ix 880 (by decide +kernel), gw_ix 102 (by decide +kernel), gw_ix 881 (by decide +kernel)⟩, by decide +kernel⟩
theorem kvX11_173 : qv_cv RX11 173 yX11_isPlace cX11_isPlace 2 (some .boolean) 1 := ⟨⟨gw_ix 890 (by decide +kernel), gw_ix 892 (by decide +kernel), gw_ix 25 (by decide +kernel), gw_ix 96 (by decide +kernel), gw_ix 893 (by decide +kernel)⟩, by decide +kernel⟩
theorem kvX11_180 : qv_cv RX11 180 yX7_heardOf cX7_heardOf 5 (some .int) 3 := ⟨⟨gw_ix 894 (by decide +kernel), gw_ix 895 (by decide +kernel), gw_ix 896 (by decide +kernel), gw_ix 105 (by decide +kernel), gw_ix 897 (by decide +kernel)⟩, by decide +kernel⟩
theorem kvX11_184 : qv_cv RX11 184 yX7_face cX7_face 2 none 1 := ⟨⟨gw_ix 912 (by decide +kernel), gw_ix 913 (by decide +kernel), gw_ix 914 (by decide +kernel), gw_ix 105 (by decide +kernel), gw_ix 915 (by decide +kernel)⟩, by decide +kernel⟩
theorem kvX11_187 : qv_cv RX11 187 yX7_noiseAt cX7_noiseAt 2 (some .int) 1 := ⟨⟨gw_ix 917 (by decide +kernel), gw_ix 918 (by decide +kernel), gw_ix 919 (by decide +kernel), gw_ix 105 (by decide +kernel), gw_ix 920 (by decide +kernel)⟩, by decide +kernel⟩
theorem kvX11_193 : qv_cv RX11 193 yX0_borne cX0_borne 4 (some .int) 3 := ⟨⟨gw_ix 949 (by decide +kernel), gw_ix 950 (by decide +kernel), gw_ix 951 (by decide +kernel), gw_ix 104 (by decide +kernel), gw_ix 952 (by decide +kernel)⟩, by decide +kernel⟩
theorem kvX11_202 : qv_cv RX11 202 yX7_clearSeconds cX7_clearSeconds 6 (some .int) 2 := ⟨⟨gw_ix 957 (by decide +kernel), gw_ix 958 (by decide +kernel), gw_ix 959 (by decide +kernel), gw_ix 105 (by decide +kernel), gw_ix 960 (by decide +kernel)⟩, by decide +kernel⟩
theorem kvX11_206 : qv_cv RX11 206 yX11_beforeChange cX11_beforeChange 1 none 0 := ⟨⟨gw_ix 963 (by decide +kernel), gw_ix 965 (by decide +kernel), gw_ix 26 (by decide +kernel), gw_ix 96 (by decide +kernel), gw_ix 966 (by decide +kernel)⟩, by decide +kernel⟩
theorem kvX11_209 : qv_cv RX11 209 yX5_allSeconds cX5_allSeconds 2 (some .int) 1 := ⟨⟨gw_ix 979 (by decide +kernel), gw_ix 883 (by decide +kernel), gw_ix 884 (by decide +kernel), gw_ix 100 (by decide +kernel), gw_ix 885 (by decide +kernel)⟩, by decide +kernel⟩
theorem kvX11_212 : qv_cv RX11 212 yX6_addTake cX6_addTake 4 none 3 := ⟨⟨gw_ix 980 (by decide +kernel), gw_ix 981 (by decide +kernel), gw_ix 982 (by decide +kernel), gw_ix 102 (by decide +kernel), gw_ix 983 (by decide +kernel)⟩, by decide +kernel⟩
theorem kvX11_216 : qv_cv RX11 216 yX6_stand cX6_stand 2 none 1 := ⟨⟨gw_ix 984 (by decide +kernel), gw_ix 985 (by decide +kernel), gw_ix 986 (by decide +kernel), gw_ix 102 (by decide +kernel), gw_ix 987 (by decide +kernel)⟩, by decide +kernel⟩
theorem kvX11_236 : qv_cv RX11 236 yX1_pop cX1_pop 2 none 1 := ⟨⟨gw_ix 1009 (by decide +kernel), gw_ix 1010 (by decide +kernel), gw_ix 1011 (by decide +kernel), gw_ix 103 (by decide +kernel), gw_ix 1012 (by decide +kernel)⟩, by decide +kernel⟩
theorem kvX11_240 : qv_cv RX11 240 yX7_drop cX7_drop 1 none 0 := ⟨⟨gw_ix 525 (by decide +kernel), gw_ix 526 (by decide +kernel), gw_ix 527 (by decide +kernel), gw_ix 105 (by decide +kernel), gw_ix 528 (by decide +kernel)⟩, by decide +kernel⟩
theorem kvX11_243 : qv_cv RX11 243 yX11_isHole cX11_isHole 4 (some .boolean) 3 := ⟨⟨gw_ix 1017 (by decide +kernel), gw_ix 1019 (by decide +kernel), gw_ix 27 (by decide +kernel), gw_ix 96 (by decide +kernel), gw_ix 1020 (by decide +kernel)⟩, by decide +kernel⟩
theorem kvX11_246 : qv_cv RX11 246 yX7_greatest cX7_greatest 6 (some .int) 3 := ⟨⟨gw_ix 1029 (by decide +kernel), gw_ix 1030 (by decide +kernel), gw_ix 1031 (by decide +kernel), gw_ix 105 (by decide +kernel), gw_ix 1032 (by decide +kernel)⟩, by decide +kernel⟩
theorem kvX11_249 : qv_cv RX11 249 yX0_ageOf cX0_ageOf 7 (some .int) 3 := ⟨⟨gw_ix 856 (by decide +kernel), gw_ix 857 (by decide +kernel), gw_ix 858 (by decide +kernel), gw_ix 104 (by decide +kernel), gw_ix 859 (by decide +kernel)⟩, by decide +kernel⟩
theorem kvX11_252 : qv_cv RX11 252 yX7_soundAt cX7_soundAt 8 (some .int) 1 := ⟨⟨gw_ix 1041 (by decide +kernel), gw_ix 922 (by decide +kernel), gw_ix 923 (by decide +kernel), gw_ix 105 (by decide +kernel), gw_ix 924 (by decide +kernel)⟩, by decide +kernel⟩
theorem kvX11_264 : qv_cv RX11 264 yX7_firstGood cX7_firstGood 7 (some .int) 3 := ⟨⟨gw_ix 1061 (by decide +kernel), gw_ix 1062 (by decide +kernel), gw_ix 1063 (by decide +kernel), gw_ix 105 (by decide +kernel), gw_ix 1064 (by decide +kernel)⟩, by decide +kernel⟩
theorem kvX11_267 : qv_cv RX11 267 yX3_gather cX3_gather 2 none 0 := ⟨⟨gw_ix 1073 (by decide +kernel), gw_ix 1074 (by decide +kernel), gw_ix 1075 (by decide +kernel), gw_ix 106 (by decide +kernel), gw_ix 1076 (by decide +kernel)⟩, by decide +kernel⟩
theorem kvX11_271 : qv_cv RX11 271 yX3_visit cX3_visit 8 none 3 := ⟨⟨gw_ix 1080 (by decide +kernel), gw_ix 1081 (by decide +kernel), gw_ix 1082 (by decide +kernel), gw_ix 106 (by decide +kernel), gw_ix 1083 (by decide +kernel)⟩, by decide +kernel⟩
theorem kvX11_277 : qv_cv RX11 277 yX3_all cX3_all 1 (some .int) 0 := ⟨⟨gw_ix 1095 (by decide +kernel), gw_ix 1090 (by decide +kernel), gw_ix 1091 (by decide +kernel), gw_ix 106 (by decide +kernel), gw_ix 1092 (by decide +kernel)⟩, by decide +kernel⟩
theorem kvX11_288 : qv_cv RX11 288 yX7_firstGoodWithout cX7_firstGoodWithout 5 (some .int) 3 := ⟨⟨gw_ix 1101 (by decide +kernel), gw_ix 1102 (by decide +kernel), gw_ix 1103 (by decide +kernel), gw_ix 105 (by decide +kernel), gw_ix 1104 (by decide +kernel)⟩, by decide +kernel⟩
theorem kvX11_291 : qv_cv RX11 291 yX3_fewestLeft cX3_fewestLeft 4 (some .int) 1 := ⟨⟨gw_ix 1109 (by decide +kernel), gw_ix 1110 (by decide +kernel), gw_ix 1111 (by decide +kernel), gw_ix 106 (by decide +kernel), gw_ix 1112 (by decide +kernel)⟩, by decide +kernel⟩
theorem kvX11_299 : qv_cv RX11 299 yX3_shotBits cX3_shotBits 4 (some .int) 1 := ⟨⟨gw_ix 1120 (by decide +kernel), gw_ix 1121 (by decide +kernel), gw_ix 1122 (by decide +kernel), gw_ix 106 (by decide +kernel), gw_ix 1123 (by decide +kernel)⟩, by decide +kernel⟩
theorem kvX11_302 : qv_cv RX11 302 yX7_tooLoud cX7_tooLoud 6 (some .int) 1 := ⟨⟨gw_ix 1128 (by decide +kernel), gw_ix 1129 (by decide +kernel), gw_ix 1130 (by decide +kernel), gw_ix 105 (by decide +kernel), gw_ix 1131 (by decide +kernel)⟩, by decide +kernel⟩
theorem kvX11_305 : qv_cv RX11 305 yX5_priceOf cX5_priceOf 4 (some .int) 1 := ⟨⟨gw_ix 1133 (by decide +kernel), gw_ix 1134 (by decide +kernel), gw_ix 1135 (by decide +kernel), gw_ix 100 (by decide +kernel), gw_ix 1136 (by decide +kernel)⟩, by decide +kernel⟩
theorem kvX11_308 : qv_cv RX11 308 yX7_firstUnclear cX7_firstUnclear 7 (some .int) 3 := ⟨⟨gw_ix 1141 (by decide +kernel), gw_ix 1066 (by decide +kernel), gw_ix 1067 (by decide +kernel), gw_ix 105 (by decide +kernel), gw_ix 1068 (by decide +kernel)⟩, by decide +kernel⟩
theorem kvX11_314 : qv_cv RX11 314 yX0_tune cX0_tune 2 none 1 := ⟨⟨gw_ix 520 (by decide +kernel), gw_ix 521 (by decide +kernel), gw_ix 522 (by decide +kernel), gw_ix 104 (by decide +kernel), gw_ix 523 (by decide +kernel)⟩, by decide +kernel⟩
theorem kvX11_318 : qv_cv RX11 318 yX10_add cX10_add 5 none 3 := ⟨⟨gw_ix 1154 (by decide +kernel), gw_ix 1155 (by decide +kernel), gw_ix 1156 (by decide +kernel), gw_ix 107 (by decide +kernel), gw_ix 1157 (by decide +kernel)⟩, by decide +kernel⟩
theorem kvX11_320 : qv_cv RX11 320 yX10_clear cX10_clear 1 none 0 := ⟨⟨gw_ix 515 (by decide +kernel), gw_ix 516 (by decide +kernel), gw_ix 517 (by decide +kernel), gw_ix 107 (by decide +kernel), gw_ix 518 (by decide +kernel)⟩, by decide +kernel⟩
theorem kvX11_323 : qv_cv RX11 323 yX10_howMany cX10_howMany 4 (some .int) 1 := ⟨⟨gw_ix 1173 (by decide +kernel), gw_ix 1174 (by decide +kernel), gw_ix 1175 (by decide +kernel), gw_ix 107 (by decide +kernel), gw_ix 1176 (by decide +kernel)⟩, by decide +kernel⟩
theorem kvX11_326 : qv_cv RX11 326 yX10_which cX10_which 5 (some .int) 2 := ⟨⟨gw_ix 1177 (by decide +kernel), gw_ix 1178 (by decide +kernel), gw_ix 1179 (by decide +kernel), gw_ix 107 (by decide +kernel), gw_ix 1180 (by decide +kernel)⟩, by decide +kernel⟩
theorem kvX11_329 : qv_cv RX11 329 yX6_copy cX6_copy 2 none 1 := ⟨⟨gw_ix 1185 (by decide +kernel), gw_ix 972 (by decide +kernel), gw_ix 973 (by decide +kernel), gw_ix 102 (by decide +kernel), gw_ix 974 (by decide +kernel)⟩, by decide +kernel⟩
theorem kvX11_338 : qv_cv RX11 338 yX11_doneBits cX11_doneBits 3 (some .int) 0 := ⟨⟨gw_ix 1194 (by decide +kernel), gw_ix 1196 (by decide +kernel), gw_ix 30 (by decide +kernel), gw_ix 96 (by decide +kernel), gw_ix 1197 (by decide +kernel)⟩, by decide +kernel⟩
theorem kvX11_341 : qv_cv RX11 341 yX6_allTakes cX6_allTakes 3 (some .int) 0 := ⟨⟨gw_ix 1198 (by decide +kernel), gw_ix 1199 (by decide +kernel), gw_ix 1200 (by decide +kernel), gw_ix 102 (by decide +kernel), gw_ix 1201 (by decide +kernel)⟩, by decide +kernel⟩
theorem kvX11_344 : qv_cv RX11 344 yX11_onBits cX11_onBits 3 (some .int) 0 := ⟨⟨gw_ix 1202 (by decide +kernel), gw_ix 1204 (by decide +kernel), gw_ix 31 (by decide +kernel), gw_ix 96 (by decide +kernel), gw_ix 1205 (by decide +kernel)⟩, by decide +kernel⟩
theorem kvX11_348 : qv_cv RX11 348 yX6_clear cX6_clear 2 none 1 := ⟨⟨gw_ix 508 (by decide +kernel), gw_ix 509 (by decide +kernel), gw_ix 510 (by decide +kernel), gw_ix 102 (by decide +kernel), gw_ix 511 (by decide +kernel)⟩, by decide +kernel⟩
theorem kvX11_350 : qv_cv RX11 350 yX1_push cX1_push 2 none 1 := ⟨⟨gw_ix 967 (by decide +kernel), gw_ix 968 (by decide +kernel), gw_ix 969 (by decide +kernel), gw_ix 103 (by decide +kernel), gw_ix 970 (by decide +kernel)⟩, by decide +kernel⟩
theorem kvX11_93 : qv_cv RX11 93 yX11_beginAnew cX11_beginAnew 1 none 0 := ⟨⟨gw_ix 504 (by decide +kernel), gw_ix 506 (by decide +kernel), gw_ix 2 (by decide +kernel), gw_ix 96 (by decide +kernel), gw_ix 507 (by decide +kernel)⟩, by decide +kernel⟩
theorem kvJ0_335 : qv_cv RJ0 335 yJ0_coder_7d493 cJ0_coder_7d493 1 (some .byte) 0 := ⟨⟨gw_ix 610 (by decide +kernel), gw_ix 611 (by decide +kernel), gw_ix 612 (by decide +kernel), gw_ix 110 (by decide +kernel), gw_ix 613 (by decide +kernel)⟩, by decide +kernel⟩
theorem kvJ0_492 : qv_cv RJ0 492 yJ0_isLatin1_aae02 cJ0_isLatin1_aae02 1 (some .boolean) 0 := ⟨⟨gw_ix 620 (by decide +kernel), gw_ix 621 (by decide +kernel), gw_ix 622 (by decide +kernel), gw_ix 110 (by decide +kernel), gw_ix 623 (by decide +kernel)⟩, by decide +kernel⟩
theorem kvJ0_505 : qv_cv RJ0 505 yJ0_length_8abf5 cJ0_length_8abf5 1 (some .int) 0 := ⟨⟨gw_ix 663 (by decide +kernel), gw_ix 607 (by decide +kernel), gw_ix 608 (by decide +kernel), gw_ix 110 (by decide +kernel), gw_ix 609 (by decide +kernel)⟩, by decide +kernel⟩
theorem kvJ0_633 : qv_cv RJ0 633 yJ0_indexOf_7cf53 cJ0_indexOf_7cf53 3 (some .int) 2 := ⟨⟨gw_ix 659 (by decide +kernel), gw_ix 660 (by decide +kernel), gw_ix 661 (by decide +kernel), gw_ix 110 (by decide +kernel), gw_ix 662 (by decide +kernel)⟩, by decide +kernel⟩
theorem kcX0_101 : Cond.constant RX0 101 4000000 ∈ gw_tbl := gw_ix 930 (by decide +kernel)
theorem kcX0_41 : Cond.constant RX0 41 1103515245 ∈ gw_tbl := gw_ix 869 (by decide +kernel)
theorem kcX3_50 : Cond.constant RX3 50 1000000 ∈ gw_tbl := gw_ix 1078 (by decide +kernel)
theorem kcX7_78 : Cond.constant RX7 78 262144 ∈ gw_tbl := gw_ix 931 (by decide +kernel)
theorem kcX7_79 : Cond.constant RX7 79 524288 ∈ gw_tbl := gw_ix 932 (by decide +kernel)
theorem kcX11_281 : Cond.constant RX11 281 1000000 ∈ gw_tbl := gw_ix 1096 (by decide +kernel)
theorem kcJ6_265 : Cond.constant RJ6 265 1431655765 ∈ gw_tbl := gw_ix 1116 (by decide +kernel)
theorem kcJ6_266 : Cond.constant RJ6 266 858993459 ∈ gw_tbl := gw_ix 1117 (by decide +kernel)
theorem kcJ6_267 : Cond.constant RJ6 267 252645135 ∈ gw_tbl := gw_ix 1118 (by decide +kernel)
theorem kcX9_86 : Cond.constantLong RX9 86 10 ∈ gw_tbl := gw_ix 717 (by decide +kernel)
theorem kcX9_88 : Cond.constantLong RX9 88 48 ∈ gw_tbl := gw_ix 718 (by decide +kernel)
theorem kcX9_90 : Cond.constantLong RX9 90 32 ∈ gw_tbl := gw_ix 719 (by decide +kernel)
theorem kcX9_92 : Cond.constantLong RX9 92 97 ∈ gw_tbl := gw_ix 720 (by decide +kernel)
theorem kfX0_11 : Cond.fieldLink RX0 11 (TX0 1).1 (TX0 1).2.1 (TX0 1).2.2.1 ∈ gw_tbl := gw_ix 404 (by decide +kernel)
theorem kfX0_15 : Cond.fieldLink RX0 15 (TX0 2).1 (TX0 2).2.1 (TX0 2).2.2.1 ∈ gw_tbl := gw_ix 405 (by decide +kernel)
theorem kfX0_18 : Cond.fieldLink RX0 18 (TX0 3).1 (TX0 3).2.1 (TX0 3).2.2.1 ∈ gw_tbl := gw_ix 406 (by decide +kernel)
theorem kfX0_21 : Cond.fieldLink RX0 21 (TX0 4).1 (TX0 4).2.1 (TX0 4).2.2.1 ∈ gw_tbl := gw_ix 407 (by decide +kernel)
theorem kfX0_24 : Cond.fieldLink RX0 24 (TX0 5).1 (TX0 5).2.1 (TX0 5).2.2.1 ∈ gw_tbl := gw_ix 408 (by decide +kernel)
theorem kfX0_27 : Cond.fieldLink RX0 27 (TX0 0).1 (TX0 0).2.1 (TX0 0).2.2.1 ∈ gw_tbl := gw_ix 403 (by decide +kernel)
theorem kfX0_31 : Cond.fieldLink RX0 31 (TX0 6).1 (TX0 6).2.1 (TX0 6).2.2.1 ∈ gw_tbl := gw_ix 409 (by decide +kernel)
theorem kfX0_42 : Cond.fieldLink RX0 42 (TX5 3).1 (TX5 3).2.1 (TX5 3).2.2.1 ∈ gw_tbl := gw_ix 260 (by decide +kernel)
theorem kfX0_48 : Cond.fieldLink RX0 48 (TX5 4).1 (TX5 4).2.1 (TX5 4).2.2.1 ∈ gw_tbl := gw_ix 263 (by decide +kernel)
theorem kfX0_55 : Cond.fieldLink RX0 55 (TX5 5).1 (TX5 5).2.1 (TX5 5).2.2.1 ∈ gw_tbl := gw_ix 266 (by decide +kernel)
theorem kfX0_58 : Cond.fieldLink RX0 58 (TX5 6).1 (TX5 6).2.1 (TX5 6).2.2.1 ∈ gw_tbl := gw_ix 269 (by decide +kernel)
theorem kfX0_70 : Cond.fieldLink RX0 70 (TX5 1).1 (TX5 1).2.1 (TX5 1).2.2.1 ∈ gw_tbl := gw_ix 254 (by decide +kernel)
theorem kfX0_73 : Cond.fieldLink RX0 73 (TX5 7).1 (TX5 7).2.1 (TX5 7).2.2.1 ∈ gw_tbl := gw_ix 272 (by decide +kernel)
theorem kfX0_76 : Cond.fieldLink RX0 76 (TX5 9).1 (TX5 9).2.1 (TX5 9).2.2.1 ∈ gw_tbl := gw_ix 277 (by decide +kernel)
theorem kfX0_79 : Cond.fieldLink RX0 79 (TX5 12).1 (TX5 12).2.1 (TX5 12).2.2.1 ∈ gw_tbl := gw_ix 286 (by decide +kernel)
theorem kfX0_92 : Cond.fieldLink RX0 92 (TX5 11).1 (TX5 11).2.1 (TX5 11).2.2.1 ∈ gw_tbl := gw_ix 283 (by decide +kernel)
theorem kfX0_95 : Cond.fieldLink RX0 95 (TX5 13).1 (TX5 13).2.1 (TX5 13).2.2.1 ∈ gw_tbl := gw_ix 288 (by decide +kernel)
theorem kfX0_98 : Cond.fieldLink RX0 98 (TX5 14).1 (TX5 14).2.1 (TX5 14).2.2.1 ∈ gw_tbl := gw_ix 290 (by decide +kernel)
theorem kfX1_11 : Cond.fieldLink RX1 11 (TX1 0).1 (TX1 0).2.1 (TX1 0).2.2.1 ∈ gw_tbl := gw_ix 386 (by decide +kernel)
theorem kfX1_16 : Cond.fieldLink RX1 16 (TX1 1).1 (TX1 1).2.1 (TX1 1).2.2.1 ∈ gw_tbl := gw_ix 387 (by decide +kernel)
theorem kfX1_24 : Cond.fieldLink RX1 24 (TX1 2).1 (TX1 2).2.1 (TX1 2).2.2.1 ∈ gw_tbl := gw_ix 388 (by decide +kernel)
theorem kfX2_11 : Cond.fieldLink RX2 11 (TX2 0).1 (TX2 0).2.1 (TX2 0).2.2.1 ∈ gw_tbl := gw_ix 220 (by decide +kernel)
theorem kfX2_17 : Cond.fieldLink RX2 17 (TX2 1).1 (TX2 1).2.1 (TX2 1).2.2.1 ∈ gw_tbl := gw_ix 221 (by decide +kernel)
theorem kfX2_20 : Cond.fieldLink RX2 20 (TX2 2).1 (TX2 2).2.1 (TX2 2).2.2.1 ∈ gw_tbl := gw_ix 222 (by decide +kernel)
theorem kfX2_23 : Cond.fieldLink RX2 23 (TX2 3).1 (TX2 3).2.1 (TX2 3).2.2.1 ∈ gw_tbl := gw_ix 223 (by decide +kernel)
theorem kfX2_31 : Cond.fieldLink RX2 31 (TX2 4).1 (TX2 4).2.1 (TX2 4).2.2.1 ∈ gw_tbl := gw_ix 224 (by decide +kernel)
theorem kfX2_34 : Cond.fieldLink RX2 34 (TX9 4).1 (TX9 4).2.1 (TX9 4).2.2.1 ∈ gw_tbl := gw_ix 154 (by decide +kernel)
theorem kfX3_11 : Cond.fieldLink RX3 11 (TX3 3).1 (TX3 3).2.1 (TX3 3).2.2.1 ∈ gw_tbl := gw_ix 459 (by decide +kernel)
theorem kfX3_15 : Cond.fieldLink RX3 15 (TX3 4).1 (TX3 4).2.1 (TX3 4).2.2.1 ∈ gw_tbl := gw_ix 460 (by decide +kernel)
theorem kfX3_18 : Cond.fieldLink RX3 18 (TX3 5).1 (TX3 5).2.1 (TX3 5).2.2.1 ∈ gw_tbl := gw_ix 461 (by decide +kernel)
theorem kfX3_21 : Cond.fieldLink RX3 21 (TX3 6).1 (TX3 6).2.1 (TX3 6).2.2.1 ∈ gw_tbl := gw_ix 463 (by decide +kernel)
theorem kfX3_24 : Cond.fieldLink RX3 24 (TX3 0).1 (TX3 0).2.1 (TX3 0).2.2.1 ∈ gw_tbl := gw_ix 456 (by decide +kernel)
theorem kfX3_28 : Cond.fieldLink RX3 28 (TX3 1).1 (TX3 1).2.1 (TX3 1).2.2.1 ∈ gw_tbl := gw_ix 457 (by decide +kernel)
theorem kfX3_32 : Cond.fieldLink RX3 32 (TX3 2).1 (TX3 2).2.1 (TX3 2).2.2.1 ∈ gw_tbl := gw_ix 458 (by decide +kernel)
theorem kfX3_36 : Cond.fieldLink RX3 36 (TX3 7).1 (TX3 7).2.1 (TX3 7).2.2.1 ∈ gw_tbl := gw_ix 465 (by decide +kernel)
theorem kfX3_40 : Cond.fieldLink RX3 40 (TX5 2).1 (TX5 2).2.1 (TX5 2).2.2.1 ∈ gw_tbl := gw_ix 257 (by decide +kernel)
theorem kfX3_63 : Cond.fieldLink RX3 63 (TX5 10).1 (TX5 10).2.1 (TX5 10).2.2.1 ∈ gw_tbl := gw_ix 279 (by decide +kernel)
theorem kfX4_15 : Cond.fieldLink RX4 15 (TX4 9).1 (TX4 9).2.1 (TX4 9).2.2.1 ∈ gw_tbl := gw_ix 185 (by decide +kernel)
theorem kfX4_19 : Cond.fieldLink RX4 19 (TX4 0).1 (TX4 0).2.1 (TX4 0).2.2.1 ∈ gw_tbl := gw_ix 175 (by decide +kernel)
theorem kfX4_23 : Cond.fieldLink RX4 23 (TX4 8).1 (TX4 8).2.1 (TX4 8).2.2.1 ∈ gw_tbl := gw_ix 183 (by decide +kernel)
theorem kfX4_26 : Cond.fieldLink RX4 26 (TX4 6).1 (TX4 6).2.1 (TX4 6).2.2.1 ∈ gw_tbl := gw_ix 181 (by decide +kernel)
theorem kfX4_29 : Cond.fieldLink RX4 29 (TX4 3).1 (TX4 3).2.1 (TX4 3).2.2.1 ∈ gw_tbl := gw_ix 178 (by decide +kernel)
theorem kfX4_32 : Cond.fieldLink RX4 32 (TX4 4).1 (TX4 4).2.1 (TX4 4).2.2.1 ∈ gw_tbl := gw_ix 179 (by decide +kernel)
theorem kfX4_35 : Cond.fieldLink RX4 35 (TX4 5).1 (TX4 5).2.1 (TX4 5).2.2.1 ∈ gw_tbl := gw_ix 180 (by decide +kernel)
theorem kfX4_50 : Cond.fieldLink RX4 50 (TX4 7).1 (TX4 7).2.1 (TX4 7).2.2.1 ∈ gw_tbl := gw_ix 182 (by decide +kernel)
theorem kfX4_87 : Cond.fieldLink RX4 87 (TX4 2).1 (TX4 2).2.1 (TX4 2).2.2.1 ∈ gw_tbl := gw_ix 177 (by decide +kernel)
theorem kfX4_9 : Cond.fieldLink RX4 9 (TX4 1).1 (TX4 1).2.1 (TX4 1).2.2.1 ∈ gw_tbl := gw_ix 176 (by decide +kernel)
theorem kfX4_90 : Cond.fieldLink RX4 90 (TX9 4).1 (TX9 4).2.1 (TX9 4).2.2.1 ∈ gw_tbl := gw_ix 155 (by decide +kernel)
theorem kfX5_15 : Cond.fieldLink RX5 15 (TX5 4).1 (TX5 4).2.1 (TX5 4).2.2.1 ∈ gw_tbl := gw_ix 262 (by decide +kernel)
theorem kfX5_19 : Cond.fieldLink RX5 19 (TX5 5).1 (TX5 5).2.1 (TX5 5).2.2.1 ∈ gw_tbl := gw_ix 265 (by decide +kernel)
theorem kfX5_22 : Cond.fieldLink RX5 22 (TX5 6).1 (TX5 6).2.1 (TX5 6).2.2.1 ∈ gw_tbl := gw_ix 268 (by decide +kernel)
theorem kfX5_25 : Cond.fieldLink RX5 25 (TX5 7).1 (TX5 7).2.1 (TX5 7).2.2.1 ∈ gw_tbl := gw_ix 271 (by decide +kernel)
theorem kfX5_28 : Cond.fieldLink RX5 28 (TX5 8).1 (TX5 8).2.1 (TX5 8).2.2.1 ∈ gw_tbl := gw_ix 274 (by decide +kernel)
theorem kfX5_31 : Cond.fieldLink RX5 31 (TX5 9).1 (TX5 9).2.1 (TX5 9).2.2.1 ∈ gw_tbl := gw_ix 276 (by decide +kernel)
theorem kfX5_34 : Cond.fieldLink RX5 34 (TX5 10).1 (TX5 10).2.1 (TX5 10).2.2.1 ∈ gw_tbl := gw_ix 278 (by decide +kernel)
theorem kfX5_37 : Cond.fieldLink RX5 37 (TX5 11).1 (TX5 11).2.1 (TX5 11).2.2.1 ∈ gw_tbl := gw_ix 282 (by decide +kernel)
theorem kfX5_43 : Cond.fieldLink RX5 43 (TX5 12).1 (TX5 12).2.1 (TX5 12).2.2.1 ∈ gw_tbl := gw_ix 285 (by decide +kernel)
theorem kfX5_47 : Cond.fieldLink RX5 47 (TX5 13).1 (TX5 13).2.1 (TX5 13).2.2.1 ∈ gw_tbl := gw_ix 287 (by decide +kernel)
theorem kfX5_50 : Cond.fieldLink RX5 50 (TX5 14).1 (TX5 14).2.1 (TX5 14).2.2.1 ∈ gw_tbl := gw_ix 289 (by decide +kernel)
theorem kfX5_56 : Cond.fieldLink RX5 56 (TX5 0).1 (TX5 0).2.1 (TX5 0).2.2.1 ∈ gw_tbl := gw_ix 249 (by decide +kernel)
theorem kfX5_60 : Cond.fieldLink RX5 60 (TX5 1).1 (TX5 1).2.1 (TX5 1).2.2.1 ∈ gw_tbl := gw_ix 253 (by decide +kernel)
theorem kfX5_63 : Cond.fieldLink RX5 63 (TX5 2).1 (TX5 2).2.1 (TX5 2).2.2.1 ∈ gw_tbl := gw_ix 256 (by decide +kernel)
theorem kfX5_70 : Cond.fieldLink RX5 70 (TX5 15).1 (TX5 15).2.1 (TX5 15).2.2.1 ∈ gw_tbl := gw_ix 291 (by decide +kernel)
theorem kfX5_73 : Cond.fieldLink RX5 73 (TX5 16).1 (TX5 16).2.1 (TX5 16).2.2.1 ∈ gw_tbl := gw_ix 293 (by decide +kernel)
theorem kfX5_76 : Cond.fieldLink RX5 76 (TX5 17).1 (TX5 17).2.1 (TX5 17).2.2.1 ∈ gw_tbl := gw_ix 295 (by decide +kernel)
theorem kfX5_79 : Cond.fieldLink RX5 79 (TX9 4).1 (TX9 4).2.1 (TX9 4).2.2.1 ∈ gw_tbl := gw_ix 153 (by decide +kernel)
theorem kfX5_9 : Cond.fieldLink RX5 9 (TX5 3).1 (TX5 3).2.1 (TX5 3).2.2.1 ∈ gw_tbl := gw_ix 259 (by decide +kernel)
theorem kfX6_15 : Cond.fieldLink RX6 15 (TX6 5).1 (TX6 5).2.1 (TX6 5).2.2.1 ∈ gw_tbl := gw_ix 354 (by decide +kernel)
theorem kfX6_18 : Cond.fieldLink RX6 18 (TX6 6).1 (TX6 6).2.1 (TX6 6).2.2.1 ∈ gw_tbl := gw_ix 356 (by decide +kernel)
theorem kfX6_21 : Cond.fieldLink RX6 21 (TX6 7).1 (TX6 7).2.1 (TX6 7).2.2.1 ∈ gw_tbl := gw_ix 358 (by decide +kernel)
theorem kfX6_24 : Cond.fieldLink RX6 24 (TX6 0).1 (TX6 0).2.1 (TX6 0).2.2.1 ∈ gw_tbl := gw_ix 340 (by decide +kernel)
theorem kfX6_28 : Cond.fieldLink RX6 28 (TX6 1).1 (TX6 1).2.1 (TX6 1).2.2.1 ∈ gw_tbl := gw_ix 343 (by decide +kernel)
theorem kfX6_31 : Cond.fieldLink RX6 31 (TX6 2).1 (TX6 2).2.1 (TX6 2).2.2.1 ∈ gw_tbl := gw_ix 346 (by decide +kernel)
theorem kfX6_34 : Cond.fieldLink RX6 34 (TX6 3).1 (TX6 3).2.1 (TX6 3).2.2.1 ∈ gw_tbl := gw_ix 349 (by decide +kernel)
theorem kfX6_9 : Cond.fieldLink RX6 9 (TX6 4).1 (TX6 4).2.1 (TX6 4).2.2.1 ∈ gw_tbl := gw_ix 351 (by decide +kernel)
theorem kfX7_108 : Cond.fieldLink RX7 108 (TX6 1).1 (TX6 1).2.1 (TX6 1).2.2.1 ∈ gw_tbl := gw_ix 345 (by decide +kernel)
theorem kfX7_13 : Cond.fieldLink RX7 13 (TX7 3).1 (TX7 3).2.1 (TX7 3).2.2.1 ∈ gw_tbl := gw_ix 434 (by decide +kernel)
theorem kfX7_17 : Cond.fieldLink RX7 17 (TX7 4).1 (TX7 4).2.1 (TX7 4).2.2.1 ∈ gw_tbl := gw_ix 435 (by decide +kernel)
theorem kfX7_20 : Cond.fieldLink RX7 20 (TX7 5).1 (TX7 5).2.1 (TX7 5).2.2.1 ∈ gw_tbl := gw_ix 436 (by decide +kernel)
theorem kfX7_24 : Cond.fieldLink RX7 24 (TX7 0).1 (TX7 0).2.1 (TX7 0).2.2.1 ∈ gw_tbl := gw_ix 431 (by decide +kernel)
theorem kfX7_28 : Cond.fieldLink RX7 28 (TX7 1).1 (TX7 1).2.1 (TX7 1).2.2.1 ∈ gw_tbl := gw_ix 432 (by decide +kernel)
theorem kfX7_32 : Cond.fieldLink RX7 32 (TX7 2).1 (TX7 2).2.1 (TX7 2).2.2.1 ∈ gw_tbl := gw_ix 433 (by decide +kernel)
theorem kfX7_42 : Cond.fieldLink RX7 42 (TX6 0).1 (TX6 0).2.1 (TX6 0).2.2.1 ∈ gw_tbl := gw_ix 341 (by decide +kernel)
theorem kfX7_47 : Cond.fieldLink RX7 47 (TX5 0).1 (TX5 0).2.1 (TX5 0).2.2.1 ∈ gw_tbl := gw_ix 251 (by decide +kernel)
theorem kfX7_52 : Cond.fieldLink RX7 52 (TX6 4).1 (TX6 4).2.1 (TX6 4).2.2.1 ∈ gw_tbl := gw_ix 352 (by decide +kernel)
theorem kfX7_71 : Cond.fieldLink RX7 71 (TX6 2).1 (TX6 2).2.1 (TX6 2).2.2.1 ∈ gw_tbl := gw_ix 347 (by decide +kernel)
theorem kfX7_99 : Cond.fieldLink RX7 99 (TX5 10).1 (TX5 10).2.1 (TX5 10).2.2.1 ∈ gw_tbl := gw_ix 281 (by decide +kernel)
theorem kfX8_13 : Cond.fieldLink RX8 13 (TX8 1).1 (TX8 1).2.1 (TX8 1).2.2.1 ∈ gw_tbl := gw_ix 135 (by decide +kernel)
theorem kfX8_9 : Cond.fieldLink RX8 9 (TX8 0).1 (TX8 0).2.1 (TX8 0).2.2.1 ∈ gw_tbl := gw_ix 132 (by decide +kernel)
theorem kfX9_11 : Cond.fieldLink RX9 11 (TX9 0).1 (TX9 0).2.1 (TX9 0).2.2.1 ∈ gw_tbl := gw_ix 148 (by decide +kernel)
theorem kfX9_15 : Cond.fieldLink RX9 15 (TX9 1).1 (TX9 1).2.1 (TX9 1).2.2.1 ∈ gw_tbl := gw_ix 149 (by decide +kernel)
theorem kfX9_18 : Cond.fieldLink RX9 18 (TX9 2).1 (TX9 2).2.1 (TX9 2).2.2.1 ∈ gw_tbl := gw_ix 150 (by decide +kernel)
theorem kfX9_22 : Cond.fieldLink RX9 22 (TX9 4).1 (TX9 4).2.1 (TX9 4).2.2.1 ∈ gw_tbl := gw_ix 152 (by decide +kernel)
theorem kfX9_26 : Cond.fieldLink RX9 26 (TX8 1).1 (TX8 1).2.1 (TX8 1).2.2.1 ∈ gw_tbl := gw_ix 134 (by decide +kernel)
theorem kfX9_31 : Cond.fieldLink RX9 31 (TX9 3).1 (TX9 3).2.1 (TX9 3).2.2.1 ∈ gw_tbl := gw_ix 151 (by decide +kernel)
theorem kfX10_11 : Cond.fieldLink RX10 11 (TX10 2).1 (TX10 2).2.1 (TX10 2).2.2.1 ∈ gw_tbl := gw_ix 492 (by decide +kernel)
theorem kfX10_15 : Cond.fieldLink RX10 15 (TX10 0).1 (TX10 0).2.1 (TX10 0).2.2.1 ∈ gw_tbl := gw_ix 490 (by decide +kernel)
theorem kfX10_19 : Cond.fieldLink RX10 19 (TX10 1).1 (TX10 1).2.1 (TX10 1).2.2.1 ∈ gw_tbl := gw_ix 491 (by decide +kernel)
theorem kfX10_23 : Cond.fieldLink RX10 23 (TX10 3).1 (TX10 3).2.1 (TX10 3).2.2.1 ∈ gw_tbl := gw_ix 493 (by decide +kernel)
theorem kfX10_37 : Cond.fieldLink RX10 37 (TX5 0).1 (TX5 0).2.1 (TX5 0).2.2.1 ∈ gw_tbl := gw_ix 250 (by decide +kernel)
theorem kfX11_10 : Cond.fieldLink RX11 10 (TX11 0).1 (TX11 0).2.1 (TX11 0).2.2.1 ∈ gw_tbl := gw_ix 529 (by decide +kernel)
theorem kfX11_111 : Cond.fieldLink RX11 111 (TX4 8).1 (TX4 8).2.1 (TX4 8).2.2.1 ∈ gw_tbl := gw_ix 184 (by decide +kernel)
theorem kfX11_117 : Cond.fieldLink RX11 117 (TX4 9).1 (TX4 9).2.1 (TX4 9).2.2.1 ∈ gw_tbl := gw_ix 186 (by decide +kernel)
theorem kfX11_124 : Cond.fieldLink RX11 124 (TX5 3).1 (TX5 3).2.1 (TX5 3).2.2.1 ∈ gw_tbl := gw_ix 261 (by decide +kernel)
theorem kfX11_128 : Cond.fieldLink RX11 128 (TX5 6).1 (TX5 6).2.1 (TX5 6).2.2.1 ∈ gw_tbl := gw_ix 270 (by decide +kernel)
theorem kfX11_132 : Cond.fieldLink RX11 132 (TX5 7).1 (TX5 7).2.1 (TX5 7).2.2.1 ∈ gw_tbl := gw_ix 273 (by decide +kernel)
theorem kfX11_135 : Cond.fieldLink RX11 135 (TX5 8).1 (TX5 8).2.1 (TX5 8).2.2.1 ∈ gw_tbl := gw_ix 275 (by decide +kernel)
theorem kfX11_142 : Cond.fieldLink RX11 142 (TX6 4).1 (TX6 4).2.1 (TX6 4).2.2.1 ∈ gw_tbl := gw_ix 353 (by decide +kernel)
theorem kfX11_145 : Cond.fieldLink RX11 145 (TX5 4).1 (TX5 4).2.1 (TX5 4).2.2.1 ∈ gw_tbl := gw_ix 264 (by decide +kernel)
theorem kfX11_148 : Cond.fieldLink RX11 148 (TX5 5).1 (TX5 5).2.1 (TX5 5).2.2.1 ∈ gw_tbl := gw_ix 267 (by decide +kernel)
theorem kfX11_154 : Cond.fieldLink RX11 154 (TX5 10).1 (TX5 10).2.1 (TX5 10).2.2.1 ∈ gw_tbl := gw_ix 280 (by decide +kernel)
theorem kfX11_157 : Cond.fieldLink RX11 157 (TX5 11).1 (TX5 11).2.1 (TX5 11).2.2.1 ∈ gw_tbl := gw_ix 284 (by decide +kernel)
theorem kfX11_160 : Cond.fieldLink RX11 160 (TX6 5).1 (TX6 5).2.1 (TX6 5).2.2.1 ∈ gw_tbl := gw_ix 355 (by decide +kernel)
theorem kfX11_167 : Cond.fieldLink RX11 167 (TX6 6).1 (TX6 6).2.1 (TX6 6).2.2.1 ∈ gw_tbl := gw_ix 357 (by decide +kernel)
theorem kfX11_170 : Cond.fieldLink RX11 170 (TX6 7).1 (TX6 7).2.1 (TX6 7).2.2.1 ∈ gw_tbl := gw_ix 359 (by decide +kernel)
theorem kfX11_19 : Cond.fieldLink RX11 19 (TX11 1).1 (TX11 1).2.1 (TX11 1).2.2.1 ∈ gw_tbl := gw_ix 530 (by decide +kernel)
theorem kfX11_190 : Cond.fieldLink RX11 190 (TX6 0).1 (TX6 0).2.1 (TX6 0).2.2.1 ∈ gw_tbl := gw_ix 342 (by decide +kernel)
theorem kfX11_196 : Cond.fieldLink RX11 196 (TX5 1).1 (TX5 1).2.1 (TX5 1).2.2.1 ∈ gw_tbl := gw_ix 255 (by decide +kernel)
theorem kfX11_199 : Cond.fieldLink RX11 199 (TX6 1).1 (TX6 1).2.1 (TX6 1).2.2.1 ∈ gw_tbl := gw_ix 344 (by decide +kernel)
theorem kfX11_219 : Cond.fieldLink RX11 219 (TX6 2).1 (TX6 2).2.1 (TX6 2).2.2.1 ∈ gw_tbl := gw_ix 348 (by decide +kernel)
theorem kfX11_222 : Cond.fieldLink RX11 222 (TX5 15).1 (TX5 15).2.1 (TX5 15).2.2.1 ∈ gw_tbl := gw_ix 292 (by decide +kernel)
theorem kfX11_225 : Cond.fieldLink RX11 225 (TX6 3).1 (TX6 3).2.1 (TX6 3).2.2.1 ∈ gw_tbl := gw_ix 350 (by decide +kernel)
theorem kfX11_233 : Cond.fieldLink RX11 233 (TX1 2).1 (TX1 2).2.1 (TX1 2).2.2.1 ∈ gw_tbl := gw_ix 389 (by decide +kernel)
theorem kfX11_270 : Cond.fieldLink RX11 270 (TX3 7).1 (TX3 7).2.1 (TX3 7).2.2.1 ∈ gw_tbl := gw_ix 466 (by decide +kernel)
theorem kfX11_274 : Cond.fieldLink RX11 274 (TX3 5).1 (TX3 5).2.1 (TX3 5).2.2.1 ∈ gw_tbl := gw_ix 462 (by decide +kernel)
theorem kfX11_28 : Cond.fieldLink RX11 28 (TX11 2).1 (TX11 2).2.1 (TX11 2).2.2.1 ∈ gw_tbl := gw_ix 531 (by decide +kernel)
theorem kfX11_282 : Cond.fieldLink RX11 282 (TX3 6).1 (TX3 6).2.1 (TX3 6).2.2.1 ∈ gw_tbl := gw_ix 464 (by decide +kernel)
theorem kfX11_285 : Cond.fieldLink RX11 285 (TX5 0).1 (TX5 0).2.1 (TX5 0).2.2.1 ∈ gw_tbl := gw_ix 252 (by decide +kernel)
theorem kfX11_311 : Cond.fieldLink RX11 311 (TX5 17).1 (TX5 17).2.1 (TX5 17).2.2.1 ∈ gw_tbl := gw_ix 296 (by decide +kernel)
theorem kfX11_317 : Cond.fieldLink RX11 317 (TX10 3).1 (TX10 3).2.1 (TX10 3).2.2.1 ∈ gw_tbl := gw_ix 494 (by decide +kernel)
theorem kfX11_332 : Cond.fieldLink RX11 332 (TX11 7).1 (TX11 7).2.1 (TX11 7).2.2.1 ∈ gw_tbl := gw_ix 536 (by decide +kernel)
theorem kfX11_335 : Cond.fieldLink RX11 335 (TX5 2).1 (TX5 2).2.1 (TX5 2).2.2.1 ∈ gw_tbl := gw_ix 258 (by decide +kernel)
theorem kfX11_347 : Cond.fieldLink RX11 347 (TX5 16).1 (TX5 16).2.1 (TX5 16).2.2.1 ∈ gw_tbl := gw_ix 294 (by decide +kernel)
theorem kfX11_35 : Cond.fieldLink RX11 35 (TX11 3).1 (TX11 3).2.1 (TX11 3).2.2.1 ∈ gw_tbl := gw_ix 532 (by decide +kernel)
theorem kfX11_42 : Cond.fieldLink RX11 42 (TX11 4).1 (TX11 4).2.1 (TX11 4).2.2.1 ∈ gw_tbl := gw_ix 533 (by decide +kernel)
theorem kfX11_49 : Cond.fieldLink RX11 49 (TX11 5).1 (TX11 5).2.1 (TX11 5).2.2.1 ∈ gw_tbl := gw_ix 534 (by decide +kernel)
theorem kfX11_53 : Cond.fieldLink RX11 53 (TX11 6).1 (TX11 6).2.1 (TX11 6).2.2.1 ∈ gw_tbl := gw_ix 535 (by decide +kernel)
theorem kfX11_62 : Cond.fieldLink RX11 62 (TX11 8).1 (TX11 8).2.1 (TX11 8).2.2.1 ∈ gw_tbl := gw_ix 537 (by decide +kernel)
theorem kfX11_71 : Cond.fieldLink RX11 71 (TX11 9).1 (TX11 9).2.1 (TX11 9).2.2.1 ∈ gw_tbl := gw_ix 538 (by decide +kernel)
theorem kfX11_80 : Cond.fieldLink RX11 80 (TX11 10).1 (TX11 10).2.1 (TX11 10).2.2.1 ∈ gw_tbl := gw_ix 539 (by decide +kernel)
theorem kfX11_89 : Cond.fieldLink RX11 89 (TX11 11).1 (TX11 11).2.1 (TX11 11).2.2.1 ∈ gw_tbl := gw_ix 540 (by decide +kernel)
theorem kfX11_96 : Cond.fieldLink RX11 96 (TX8 1).1 (TX8 1).2.1 (TX8 1).2.2.1 ∈ gw_tbl := gw_ix 133 (by decide +kernel)
theorem kcy1 : Cond.native arraycopyName ∈ gw_tbl := gw_ix 977 (by decide +kernel)
theorem kcy2 : Cond.static arraycopyName ∈ gw_tbl := gw_ix 976 (by decide +kernel)
theorem kcy3 : Cond.initialized "java/lang/System" ∈ gw_tbl := gw_ix 116 (by decide +kernel)
theorem kmh2 : Cond.initialized "java/lang/Math" ∈ gw_tbl := gw_ix 114 (by decide +kernel)
theorem kmhmax1 : Cond.static Lib.Math.max.name ∈ gw_tbl := gw_ix 671 (by decide +kernel)
theorem kmhmax3 : Cond.code Lib.Math.max.name Lib.Math.max.code 2 (some .int) ∈ gw_tbl := gw_ix 672 (by decide +kernel)
theorem kmhmin1 : Cond.static Lib.Math.min.name ∈ gw_tbl := gw_ix 674 (by decide +kernel)
theorem kmhmin3 : Cond.code Lib.Math.min.name Lib.Math.min.code 2 (some .int) ∈ gw_tbl := gw_ix 675 (by decide +kernel)
theorem kwit : (Cond.static yX11_within ∈ gw_tbl ∧ Cond.initialized yX11_within.cls ∈ gw_tbl ∧ Cond.code yX11_within cX11_within 3 (some .boolean) ∈ gw_tbl) ∧ (yX11_within.cls ≠ "java/lang/invoke/MethodHandle" ∧ yX11_within.cls ≠ "java/lang/invoke/VarHandle" ∧ (parseMethodDescriptor yX11_within.desc).map (fun d => d.parameters.length) = some 3) := ⟨⟨gw_ix 789 (by decide +kernel), gw_ix 96 (by decide +kernel), gw_ix 790 (by decide +kernel)⟩, by decide +kernel⟩
theorem klX3_78 : Cond.methodLink RX3 78 arraycopyName ∈ gw_tbl := gw_ix 1093 (by decide +kernel)
theorem klX6_43 : Cond.methodLink RX6 43 arraycopyName ∈ gw_tbl := gw_ix 975 (by decide +kernel)
theorem kmX0_61 : Cond.methodLink RX0 61 Lib.Math.max.name ∈ gw_tbl := gw_ix 864 (by decide +kernel)
theorem kmX2_50 : Cond.methodLink RX2 50 Lib.Math.max.name ∈ gw_tbl := gw_ix 834 (by decide +kernel)
theorem kmX7_65 : Cond.methodLink RX7 65 Lib.Math.max.name ∈ gw_tbl := gw_ix 925 (by decide +kernel)
theorem kmX9_53 : Cond.methodLink RX9 53 Lib.Math.max.name ∈ gw_tbl := gw_ix 721 (by decide +kernel)
theorem kmX10_52 : Cond.methodLink RX10 52 Lib.Math.max.name ∈ gw_tbl := gw_ix 1164 (by decide +kernel)
theorem kmX11_228 : Cond.methodLink RX11 228 Lib.Math.max.name ∈ gw_tbl := gw_ix 1004 (by decide +kernel)
theorem kmJ1_92 : Cond.methodLink RJ1 92 Lib.Math.max.name ∈ gw_tbl := gw_ix 670 (by decide +kernel)
theorem kmX0_89 : Cond.methodLink RX0 89 Lib.Math.min.name ∈ gw_tbl := gw_ix 907 (by decide +kernel)
theorem kmX1_27 : Cond.methodLink RX1 27 Lib.Math.min.name ∈ gw_tbl := gw_ix 978 (by decide +kernel)
theorem kmJ1_38 : Cond.methodLink RJ1 38 Lib.Math.min.name ∈ gw_tbl := gw_ix 673 (by decide +kernel)
theorem kfJ0_1053 : Cond.fieldLink RJ0 1053 "jdk/internal/util/Preconditions" "SIOOBE_FORMATTER" "Ljava/util/function/BiFunction;" ∈ gw_tbl := gw_ix 630 (by decide +kernel)
theorem kfJ0_15 : Cond.fieldLink RJ0 15 "java/lang/String" "coder" "B" ∈ gw_tbl := gw_ix 1856 (by decide +kernel)
theorem kfJ0_38 : Cond.fieldLink RJ0 38 "java/lang/String" "COMPACT_STRINGS" "Z" ∈ gw_tbl := gw_ix 614 (by decide +kernel)
theorem kfJ0_9 : Cond.fieldLink RJ0 9 "java/lang/String" "value" "[B" ∈ gw_tbl := gw_ix 1855 (by decide +kernel)
