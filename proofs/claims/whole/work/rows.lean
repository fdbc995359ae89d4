section
-- ===== PART A: goes FIRST, ahead of the names: the tables' words, and 'selects' of the private methods out of them =====
/-- a private method of a class that the tables say can be made, by its rows of tables_1 -/
def lw_okq (q : MethodName × Nat) : Prop := (q.1.cls ≠ "java/lang/invoke/MethodHandle" ∧ q.1.cls ≠ "java/lang/invoke/VarHandle") ∧ Cond.instantiable q.1.cls q.2 ∈ tables_1 ∧ Cond.privateMethod q.1 ∈ tables_1 ∧ Cond.instanceMethod q.1 ∈ tables_1
theorem lw_p0 : lw_okq (⟨"QuietTake$Script", "clear", "()V"⟩, 18) := ⟨⟨by decide +kernel, by decide +kernel⟩, List.mem_of_getElem? (i := 114) (by decide +kernel), List.mem_of_getElem? (i := 143) (by decide +kernel), List.mem_of_getElem? (i := 144) (by decide +kernel)⟩
theorem lw_p1 : lw_okq (⟨"QuietTake$Law", "emit", "(I)V"⟩, 5) := ⟨⟨by decide +kernel, by decide +kernel⟩, List.mem_of_getElem? (i := 120) (by decide +kernel), List.mem_of_getElem? (i := 151) (by decide +kernel), List.mem_of_getElem? (i := 152) (by decide +kernel)⟩
theorem lw_p2 : lw_okq (⟨"QuietTake", "beginAnew", "()V"⟩, 12) := ⟨⟨by decide +kernel, by decide +kernel⟩, List.mem_of_getElem? (i := 24) (by decide +kernel), List.mem_of_getElem? (i := 410) (by decide +kernel), List.mem_of_getElem? (i := 411) (by decide +kernel)⟩
theorem lw_p3 : lw_okq (⟨"QuietTake$Reader", "passTell", "()V"⟩, 10) := ⟨⟨by decide +kernel, by decide +kernel⟩, List.mem_of_getElem? (i := 75) (by decide +kernel), List.mem_of_getElem? (i := 636) (by decide +kernel), List.mem_of_getElem? (i := 637) (by decide +kernel)⟩
theorem lw_p4 : lw_okq (⟨"QuietTake$Reader", "oneMore", "(II)I"⟩, 10) := ⟨⟨by decide +kernel, by decide +kernel⟩, List.mem_of_getElem? (i := 75) (by decide +kernel), List.mem_of_getElem? (i := 640) (by decide +kernel), List.mem_of_getElem? (i := 641) (by decide +kernel)⟩
theorem lw_p5 : lw_okq (⟨"QuietTake$Reader", "refuse", "(II)V"⟩, 10) := ⟨⟨by decide +kernel, by decide +kernel⟩, List.mem_of_getElem? (i := 75) (by decide +kernel), List.mem_of_getElem? (i := 644) (by decide +kernel), List.mem_of_getElem? (i := 645) (by decide +kernel)⟩
theorem lw_p6 : lw_okq (⟨"QuietTake$Reader", "passNamed", "(I)V"⟩, 10) := ⟨⟨by decide +kernel, by decide +kernel⟩, List.mem_of_getElem? (i := 75) (by decide +kernel), List.mem_of_getElem? (i := 648) (by decide +kernel), List.mem_of_getElem? (i := 649) (by decide +kernel)⟩
theorem lw_p7 : lw_okq (⟨"QuietTake$Reader", "pass", "()V"⟩, 10) := ⟨⟨by decide +kernel, by decide +kernel⟩, List.mem_of_getElem? (i := 75) (by decide +kernel), List.mem_of_getElem? (i := 652) (by decide +kernel), List.mem_of_getElem? (i := 653) (by decide +kernel)⟩
theorem lw_p8 : lw_okq (⟨"QuietTake$Reader", "passOnly", "(I)V"⟩, 10) := ⟨⟨by decide +kernel, by decide +kernel⟩, List.mem_of_getElem? (i := 75) (by decide +kernel), List.mem_of_getElem? (i := 656) (by decide +kernel), List.mem_of_getElem? (i := 657) (by decide +kernel)⟩
theorem lw_p9 : lw_okq (⟨"QuietTake$Reader", "passLaw", "()V"⟩, 10) := ⟨⟨by decide +kernel, by decide +kernel⟩, List.mem_of_getElem? (i := 75) (by decide +kernel), List.mem_of_getElem? (i := 660) (by decide +kernel), List.mem_of_getElem? (i := 661) (by decide +kernel)⟩
theorem lw_p10 : lw_okq (⟨"QuietTake$Reader", "passSum", "(I)V"⟩, 10) := ⟨⟨by decide +kernel, by decide +kernel⟩, List.mem_of_getElem? (i := 75) (by decide +kernel), List.mem_of_getElem? (i := 664) (by decide +kernel), List.mem_of_getElem? (i := 665) (by decide +kernel)⟩
theorem lw_p11 : lw_okq (⟨"QuietTake$Reader", "checkNamesAndNumbers", "()V"⟩, 10) := ⟨⟨by decide +kernel, by decide +kernel⟩, List.mem_of_getElem? (i := 75) (by decide +kernel), List.mem_of_getElem? (i := 674) (by decide +kernel), List.mem_of_getElem? (i := 675) (by decide +kernel)⟩
theorem lw_p12 : lw_okq (⟨"QuietTake$Reader", "isNewName", "(J)Z"⟩, 10) := ⟨⟨by decide +kernel, by decide +kernel⟩, List.mem_of_getElem? (i := 75) (by decide +kernel), List.mem_of_getElem? (i := 682) (by decide +kernel), List.mem_of_getElem? (i := 683) (by decide +kernel)⟩
theorem lw_p13 : lw_okq (⟨"QuietTake$Script", "learnTell", "(LQuietTake$Tokens;I)V"⟩, 18) := ⟨⟨by decide +kernel, by decide +kernel⟩, List.mem_of_getElem? (i := 114) (by decide +kernel), List.mem_of_getElem? (i := 706) (by decide +kernel), List.mem_of_getElem? (i := 707) (by decide +kernel)⟩
theorem lw_p14 : lw_okq (⟨"QuietTake$Script", "learnNoise", "(ZILQuietTake$Tokens;I)V"⟩, 18) := ⟨⟨by decide +kernel, by decide +kernel⟩, List.mem_of_getElem? (i := 114) (by decide +kernel), List.mem_of_getElem? (i := 711) (by decide +kernel), List.mem_of_getElem? (i := 712) (by decide +kernel)⟩
theorem lw_p15 : lw_okq (⟨"QuietTake$Script", "learnPlace", "(I)V"⟩, 18) := ⟨⟨by decide +kernel, by decide +kernel⟩, List.mem_of_getElem? (i := 114) (by decide +kernel), List.mem_of_getElem? (i := 715) (by decide +kernel), List.mem_of_getElem? (i := 716) (by decide +kernel)⟩
def lw_privs_1 : List (MethodName × Nat) := [(⟨"QuietTake$Script", "clear", "()V"⟩, 18), (⟨"QuietTake$Law", "emit", "(I)V"⟩, 5), (⟨"QuietTake", "beginAnew", "()V"⟩, 12), (⟨"QuietTake$Reader", "passTell", "()V"⟩, 10), (⟨"QuietTake$Reader", "oneMore", "(II)I"⟩, 10), (⟨"QuietTake$Reader", "refuse", "(II)V"⟩, 10), (⟨"QuietTake$Reader", "passNamed", "(I)V"⟩, 10), (⟨"QuietTake$Reader", "pass", "()V"⟩, 10), (⟨"QuietTake$Reader", "passOnly", "(I)V"⟩, 10), (⟨"QuietTake$Reader", "passLaw", "()V"⟩, 10), (⟨"QuietTake$Reader", "passSum", "(I)V"⟩, 10), (⟨"QuietTake$Reader", "checkNamesAndNumbers", "()V"⟩, 10), (⟨"QuietTake$Reader", "isNewName", "(J)Z"⟩, 10), (⟨"QuietTake$Script", "learnTell", "(LQuietTake$Tokens;I)V"⟩, 18), (⟨"QuietTake$Script", "learnNoise", "(ZILQuietTake$Tokens;I)V"⟩, 18), (⟨"QuietTake$Script", "learnPlace", "(I)V"⟩, 18)]
theorem lw_r1 : ∀ q ∈ lw_privs_1, lw_okq q := List.forall_mem_cons.mpr ⟨lw_p0, List.forall_mem_cons.mpr ⟨lw_p1, List.forall_mem_cons.mpr ⟨lw_p2, List.forall_mem_cons.mpr ⟨lw_p3, List.forall_mem_cons.mpr ⟨lw_p4, List.forall_mem_cons.mpr ⟨lw_p5, List.forall_mem_cons.mpr ⟨lw_p6, List.forall_mem_cons.mpr ⟨lw_p7, List.forall_mem_cons.mpr ⟨lw_p8, List.forall_mem_cons.mpr ⟨lw_p9, List.forall_mem_cons.mpr ⟨lw_p10, List.forall_mem_cons.mpr ⟨lw_p11, List.forall_mem_cons.mpr ⟨lw_p12, List.forall_mem_cons.mpr ⟨lw_p13, List.forall_mem_cons.mpr ⟨lw_p14, List.forall_mem_cons.mpr ⟨lw_p15, fun _ h => absurd h List.not_mem_nil⟩⟩⟩⟩⟩⟩⟩⟩⟩⟩⟩⟩⟩⟩⟩⟩
theorem lw_p16 : lw_okq (⟨"QuietTake$Script", "learnShot", "(II)V"⟩, 18) := ⟨⟨by decide +kernel, by decide +kernel⟩, List.mem_of_getElem? (i := 114) (by decide +kernel), List.mem_of_getElem? (i := 719) (by decide +kernel), List.mem_of_getElem? (i := 720) (by decide +kernel)⟩
theorem lw_p17 : lw_okq (⟨"QuietTake$Law", "putOperator", "(I)V"⟩, 5) := ⟨⟨by decide +kernel, by decide +kernel⟩, List.mem_of_getElem? (i := 120) (by decide +kernel), List.mem_of_getElem? (i := 729) (by decide +kernel), List.mem_of_getElem? (i := 730) (by decide +kernel)⟩
theorem lw_p18 : lw_okq (⟨"QuietTake$Law", "emitOperators", "(I)V"⟩, 5) := ⟨⟨by decide +kernel, by decide +kernel⟩, List.mem_of_getElem? (i := 120) (by decide +kernel), List.mem_of_getElem? (i := 733) (by decide +kernel), List.mem_of_getElem? (i := 734) (by decide +kernel)⟩
theorem lw_p19 : lw_okq (⟨"QuietTake$Law", "endSum", "(I)V"⟩, 5) := ⟨⟨by decide +kernel, by decide +kernel⟩, List.mem_of_getElem? (i := 120) (by decide +kernel), List.mem_of_getElem? (i := 741) (by decide +kernel), List.mem_of_getElem? (i := 742) (by decide +kernel)⟩
theorem lw_p20 : lw_okq (⟨"QuietTake", "isNoise", "(I)Z"⟩, 12) := ⟨⟨by decide +kernel, by decide +kernel⟩, List.mem_of_getElem? (i := 24) (by decide +kernel), List.mem_of_getElem? (i := 753) (by decide +kernel), List.mem_of_getElem? (i := 754) (by decide +kernel)⟩
theorem lw_p21 : lw_okq (⟨"QuietTake", "ageNow", "(I)I"⟩, 12) := ⟨⟨by decide +kernel, by decide +kernel⟩, List.mem_of_getElem? (i := 24) (by decide +kernel), List.mem_of_getElem? (i := 758) (by decide +kernel), List.mem_of_getElem? (i := 759) (by decide +kernel)⟩
theorem lw_p22 : lw_okq (⟨"QuietTake$Ears", "latestBegin", "(II)I"⟩, 7) := ⟨⟨by decide +kernel, by decide +kernel⟩, List.mem_of_getElem? (i := 303) (by decide +kernel), List.mem_of_getElem? (i := 766) (by decide +kernel), List.mem_of_getElem? (i := 767) (by decide +kernel)⟩
theorem lw_p23 : lw_okq (⟨"QuietTake$Ears", "lot", "(I)I"⟩, 7) := ⟨⟨by decide +kernel, by decide +kernel⟩, List.mem_of_getElem? (i := 303) (by decide +kernel), List.mem_of_getElem? (i := 771) (by decide +kernel), List.mem_of_getElem? (i := 772) (by decide +kernel)⟩
theorem lw_p24 : lw_okq (⟨"QuietTake", "isShot", "(I)Z"⟩, 12) := ⟨⟨by decide +kernel, by decide +kernel⟩, List.mem_of_getElem? (i := 24) (by decide +kernel), List.mem_of_getElem? (i := 780) (by decide +kernel), List.mem_of_getElem? (i := 781) (by decide +kernel)⟩
theorem lw_p25 : lw_okq (⟨"QuietTake", "isPlace", "(I)Z"⟩, 12) := ⟨⟨by decide +kernel, by decide +kernel⟩, List.mem_of_getElem? (i := 24) (by decide +kernel), List.mem_of_getElem? (i := 796) (by decide +kernel), List.mem_of_getElem? (i := 797) (by decide +kernel)⟩
theorem lw_p26 : lw_okq (⟨"QuietTake", "beforeChange", "()V"⟩, 12) := ⟨⟨by decide +kernel, by decide +kernel⟩, List.mem_of_getElem? (i := 24) (by decide +kernel), List.mem_of_getElem? (i := 869) (by decide +kernel), List.mem_of_getElem? (i := 870) (by decide +kernel)⟩
theorem lw_p27 : lw_okq (⟨"QuietTake", "isHole", "(III)Z"⟩, 12) := ⟨⟨by decide +kernel, by decide +kernel⟩, List.mem_of_getElem? (i := 24) (by decide +kernel), List.mem_of_getElem? (i := 923) (by decide +kernel), List.mem_of_getElem? (i := 924) (by decide +kernel)⟩
theorem lw_p28 : lw_okq (⟨"QuietTake$Plan", "keepIfSooner", "(II)V"⟩, 8) := ⟨⟨by decide +kernel, by decide +kernel⟩, List.mem_of_getElem? (i := 356) (by decide +kernel), List.mem_of_getElem? (i := 991) (by decide +kernel), List.mem_of_getElem? (i := 992) (by decide +kernel)⟩
theorem lw_p29 : lw_okq (⟨"QuietTake$Track", "noiseOf", "(II)I"⟩, 4) := ⟨⟨by decide +kernel, by decide +kernel⟩, List.mem_of_getElem? (i := 390) (by decide +kernel), List.mem_of_getElem? (i := 1064) (by decide +kernel), List.mem_of_getElem? (i := 1065) (by decide +kernel)⟩
theorem lw_p30 : lw_okq (⟨"QuietTake", "doneBits", "()I"⟩, 12) := ⟨⟨by decide +kernel, by decide +kernel⟩, List.mem_of_getElem? (i := 24) (by decide +kernel), List.mem_of_getElem? (i := 1100) (by decide +kernel), List.mem_of_getElem? (i := 1101) (by decide +kernel)⟩
theorem lw_p31 : lw_okq (⟨"QuietTake", "onBits", "()I"⟩, 12) := ⟨⟨by decide +kernel, by decide +kernel⟩, List.mem_of_getElem? (i := 24) (by decide +kernel), List.mem_of_getElem? (i := 1108) (by decide +kernel), List.mem_of_getElem? (i := 1109) (by decide +kernel)⟩
def lw_privs_2 : List (MethodName × Nat) := [(⟨"QuietTake$Script", "learnShot", "(II)V"⟩, 18), (⟨"QuietTake$Law", "putOperator", "(I)V"⟩, 5), (⟨"QuietTake$Law", "emitOperators", "(I)V"⟩, 5), (⟨"QuietTake$Law", "endSum", "(I)V"⟩, 5), (⟨"QuietTake", "isNoise", "(I)Z"⟩, 12), (⟨"QuietTake", "ageNow", "(I)I"⟩, 12), (⟨"QuietTake$Ears", "latestBegin", "(II)I"⟩, 7), (⟨"QuietTake$Ears", "lot", "(I)I"⟩, 7), (⟨"QuietTake", "isShot", "(I)Z"⟩, 12), (⟨"QuietTake", "isPlace", "(I)Z"⟩, 12), (⟨"QuietTake", "beforeChange", "()V"⟩, 12), (⟨"QuietTake", "isHole", "(III)Z"⟩, 12), (⟨"QuietTake$Plan", "keepIfSooner", "(II)V"⟩, 8), (⟨"QuietTake$Track", "noiseOf", "(II)I"⟩, 4), (⟨"QuietTake", "doneBits", "()I"⟩, 12), (⟨"QuietTake", "onBits", "()I"⟩, 12)]
theorem lw_r2 : ∀ q ∈ lw_privs_2, lw_okq q := List.forall_mem_cons.mpr ⟨lw_p16, List.forall_mem_cons.mpr ⟨lw_p17, List.forall_mem_cons.mpr ⟨lw_p18, List.forall_mem_cons.mpr ⟨lw_p19, List.forall_mem_cons.mpr ⟨lw_p20, List.forall_mem_cons.mpr ⟨lw_p21, List.forall_mem_cons.mpr ⟨lw_p22, List.forall_mem_cons.mpr ⟨lw_p23, List.forall_mem_cons.mpr ⟨lw_p24, List.forall_mem_cons.mpr ⟨lw_p25, List.forall_mem_cons.mpr ⟨lw_p26, List.forall_mem_cons.mpr ⟨lw_p27, List.forall_mem_cons.mpr ⟨lw_p28, List.forall_mem_cons.mpr ⟨lw_p29, List.forall_mem_cons.mpr ⟨lw_p30, List.forall_mem_cons.mpr ⟨lw_p31, fun _ h => absurd h List.not_mem_nil⟩⟩⟩⟩⟩⟩⟩⟩⟩⟩⟩⟩⟩⟩⟩⟩
theorem lw_p32 : lw_okq (⟨"QuietTakeModel", "plain", "(I)V"⟩, 71) := ⟨⟨by decide +kernel, by decide +kernel⟩, List.mem_of_getElem? (i := 1112) (by decide +kernel), List.mem_of_getElem? (i := 1118) (by decide +kernel), List.mem_of_getElem? (i := 1119) (by decide +kernel)⟩
theorem lw_p33 : lw_okq (⟨"QuietTakeModel", "begins", "()V"⟩, 71) := ⟨⟨by decide +kernel, by decide +kernel⟩, List.mem_of_getElem? (i := 1112) (by decide +kernel), List.mem_of_getElem? (i := 1129) (by decide +kernel), List.mem_of_getElem? (i := 1130) (by decide +kernel)⟩
theorem lw_p34 : lw_okq (⟨"QuietTakeModel", "keepsRow", "()V"⟩, 71) := ⟨⟨by decide +kernel, by decide +kernel⟩, List.mem_of_getElem? (i := 1112) (by decide +kernel), List.mem_of_getElem? (i := 1133) (by decide +kernel), List.mem_of_getElem? (i := 1134) (by decide +kernel)⟩
theorem lw_p35 : lw_okq (⟨"QuietTakeModel", "put", "(I)V"⟩, 71) := ⟨⟨by decide +kernel, by decide +kernel⟩, List.mem_of_getElem? (i := 1112) (by decide +kernel), List.mem_of_getElem? (i := 1354) (by decide +kernel), List.mem_of_getElem? (i := 1355) (by decide +kernel)⟩
theorem lw_p36 : lw_okq (⟨"QuietTakeModel", "cut", "()V"⟩, 71) := ⟨⟨by decide +kernel, by decide +kernel⟩, List.mem_of_getElem? (i := 1112) (by decide +kernel), List.mem_of_getElem? (i := 1366) (by decide +kernel), List.mem_of_getElem? (i := 1367) (by decide +kernel)⟩
theorem lw_p37 : lw_okq (⟨"QuietTakeModel", "byteAt", "(I)I"⟩, 71) := ⟨⟨by decide +kernel, by decide +kernel⟩, List.mem_of_getElem? (i := 1112) (by decide +kernel), List.mem_of_getElem? (i := 1370) (by decide +kernel), List.mem_of_getElem? (i := 1371) (by decide +kernel)⟩
theorem lw_p38 : lw_okq (⟨"QuietTakeModel", "token", "(IIIJ)V"⟩, 71) := ⟨⟨by decide +kernel, by decide +kernel⟩, List.mem_of_getElem? (i := 1112) (by decide +kernel), List.mem_of_getElem? (i := 1374) (by decide +kernel), List.mem_of_getElem? (i := 1375) (by decide +kernel)⟩
theorem lw_p39 : lw_okq (⟨"QuietTakeModel", "sign", "(III)I"⟩, 71) := ⟨⟨by decide +kernel, by decide +kernel⟩, List.mem_of_getElem? (i := 1112) (by decide +kernel), List.mem_of_getElem? (i := 1384) (by decide +kernel), List.mem_of_getElem? (i := 1385) (by decide +kernel)⟩
theorem lw_p40 : lw_okq (⟨"QuietTakeModel", "is", "(I)Z"⟩, 71) := ⟨⟨by decide +kernel, by decide +kernel⟩, List.mem_of_getElem? (i := 1112) (by decide +kernel), List.mem_of_getElem? (i := 1388) (by decide +kernel), List.mem_of_getElem? (i := 1389) (by decide +kernel)⟩
theorem lw_p41 : lw_okq (⟨"QuietTakeModel", "tellOne", "()V"⟩, 71) := ⟨⟨by decide +kernel, by decide +kernel⟩, List.mem_of_getElem? (i := 1112) (by decide +kernel), List.mem_of_getElem? (i := 1392) (by decide +kernel), List.mem_of_getElem? (i := 1393) (by decide +kernel)⟩
theorem lw_p42 : lw_okq (⟨"QuietTakeModel", "roomFor", "(II)V"⟩, 71) := ⟨⟨by decide +kernel, by decide +kernel⟩, List.mem_of_getElem? (i := 1112) (by decide +kernel), List.mem_of_getElem? (i := 1396) (by decide +kernel), List.mem_of_getElem? (i := 1397) (by decide +kernel)⟩
theorem lw_p43 : lw_okq (⟨"QuietTakeModel", "fail", "(I)V"⟩, 71) := ⟨⟨by decide +kernel, by decide +kernel⟩, List.mem_of_getElem? (i := 1112) (by decide +kernel), List.mem_of_getElem? (i := 1400) (by decide +kernel), List.mem_of_getElem? (i := 1401) (by decide +kernel)⟩
theorem lw_p44 : lw_okq (⟨"QuietTakeModel", "goesOn", "()V"⟩, 71) := ⟨⟨by decide +kernel, by decide +kernel⟩, List.mem_of_getElem? (i := 1112) (by decide +kernel), List.mem_of_getElem? (i := 1404) (by decide +kernel), List.mem_of_getElem? (i := 1405) (by decide +kernel)⟩
theorem lw_p45 : lw_okq (⟨"QuietTakeModel", "tellNoise", "(Z)V"⟩, 71) := ⟨⟨by decide +kernel, by decide +kernel⟩, List.mem_of_getElem? (i := 1112) (by decide +kernel), List.mem_of_getElem? (i := 1408) (by decide +kernel), List.mem_of_getElem? (i := 1409) (by decide +kernel)⟩
theorem lw_p46 : lw_okq (⟨"QuietTakeModel", "named", "()I"⟩, 71) := ⟨⟨by decide +kernel, by decide +kernel⟩, List.mem_of_getElem? (i := 1112) (by decide +kernel), List.mem_of_getElem? (i := 1412) (by decide +kernel), List.mem_of_getElem? (i := 1413) (by decide +kernel)⟩
theorem lw_p47 : lw_okq (⟨"QuietTakeModel", "must", "(I)V"⟩, 71) := ⟨⟨by decide +kernel, by decide +kernel⟩, List.mem_of_getElem? (i := 1112) (by decide +kernel), List.mem_of_getElem? (i := 1416) (by decide +kernel), List.mem_of_getElem? (i := 1417) (by decide +kernel)⟩
def lw_privs_3 : List (MethodName × Nat) := [(⟨"QuietTakeModel", "plain", "(I)V"⟩, 71), (⟨"QuietTakeModel", "begins", "()V"⟩, 71), (⟨"QuietTakeModel", "keepsRow", "()V"⟩, 71), (⟨"QuietTakeModel", "put", "(I)V"⟩, 71), (⟨"QuietTakeModel", "cut", "()V"⟩, 71), (⟨"QuietTakeModel", "byteAt", "(I)I"⟩, 71), (⟨"QuietTakeModel", "token", "(IIIJ)V"⟩, 71), (⟨"QuietTakeModel", "sign", "(III)I"⟩, 71), (⟨"QuietTakeModel", "is", "(I)Z"⟩, 71), (⟨"QuietTakeModel", "tellOne", "()V"⟩, 71), (⟨"QuietTakeModel", "roomFor", "(II)V"⟩, 71), (⟨"QuietTakeModel", "fail", "(I)V"⟩, 71), (⟨"QuietTakeModel", "goesOn", "()V"⟩, 71), (⟨"QuietTakeModel", "tellNoise", "(Z)V"⟩, 71), (⟨"QuietTakeModel", "named", "()I"⟩, 71), (⟨"QuietTakeModel", "must", "(I)V"⟩, 71)]
theorem lw_r3 : ∀ q ∈ lw_privs_3, lw_okq q := List.forall_mem_cons.mpr ⟨lw_p32, List.forall_mem_cons.mpr ⟨lw_p33, List.forall_mem_cons.mpr ⟨lw_p34, List.forall_mem_cons.mpr ⟨lw_p35, List.forall_mem_cons.mpr ⟨lw_p36, List.forall_mem_cons.mpr ⟨lw_p37, List.forall_mem_cons.mpr ⟨lw_p38, List.forall_mem_cons.mpr ⟨lw_p39, List.forall_mem_cons.mpr ⟨lw_p40, List.forall_mem_cons.mpr ⟨lw_p41, List.forall_mem_cons.mpr ⟨lw_p42, List.forall_mem_cons.mpr ⟨lw_p43, List.forall_mem_cons.mpr ⟨lw_p44, List.forall_mem_cons.mpr ⟨lw_p45, List.forall_mem_cons.mpr ⟨lw_p46, List.forall_mem_cons.mpr ⟨lw_p47, fun _ h => absurd h List.not_mem_nil⟩⟩⟩⟩⟩⟩⟩⟩⟩⟩⟩⟩⟩⟩⟩⟩
theorem lw_p48 : lw_okq (⟨"QuietTakeModel", "wrong", "(II)V"⟩, 71) := ⟨⟨by decide +kernel, by decide +kernel⟩, List.mem_of_getElem? (i := 1112) (by decide +kernel), List.mem_of_getElem? (i := 1420) (by decide +kernel), List.mem_of_getElem? (i := 1421) (by decide +kernel)⟩
theorem lw_p49 : lw_okq (⟨"QuietTakeModel", "bounded", "(II)I"⟩, 71) := ⟨⟨by decide +kernel, by decide +kernel⟩, List.mem_of_getElem? (i := 1112) (by decide +kernel), List.mem_of_getElem? (i := 1424) (by decide +kernel), List.mem_of_getElem? (i := 1425) (by decide +kernel)⟩
theorem lw_p50 : lw_okq (⟨"QuietTakeModel", "ends", "(I)V"⟩, 71) := ⟨⟨by decide +kernel, by decide +kernel⟩, List.mem_of_getElem? (i := 1112) (by decide +kernel), List.mem_of_getElem? (i := 1428) (by decide +kernel), List.mem_of_getElem? (i := 1429) (by decide +kernel)⟩
theorem lw_p51 : lw_okq (⟨"QuietTakeModel", "tellShot", "()V"⟩, 71) := ⟨⟨by decide +kernel, by decide +kernel⟩, List.mem_of_getElem? (i := 1112) (by decide +kernel), List.mem_of_getElem? (i := 1432) (by decide +kernel), List.mem_of_getElem? (i := 1433) (by decide +kernel)⟩
theorem lw_p52 : lw_okq (⟨"QuietTakeModel", "tellLaw", "(I)V"⟩, 71) := ⟨⟨by decide +kernel, by decide +kernel⟩, List.mem_of_getElem? (i := 1112) (by decide +kernel), List.mem_of_getElem? (i := 1436) (by decide +kernel), List.mem_of_getElem? (i := 1437) (by decide +kernel)⟩
theorem lw_p53 : lw_okq (⟨"QuietTakeModel", "expression", "()V"⟩, 71) := ⟨⟨by decide +kernel, by decide +kernel⟩, List.mem_of_getElem? (i := 1112) (by decide +kernel), List.mem_of_getElem? (i := 1440) (by decide +kernel), List.mem_of_getElem? (i := 1441) (by decide +kernel)⟩
theorem lw_p54 : lw_okq (⟨"QuietTakeModel", "unit", "()V"⟩, 71) := ⟨⟨by decide +kernel, by decide +kernel⟩, List.mem_of_getElem? (i := 1112) (by decide +kernel), List.mem_of_getElem? (i := 1444) (by decide +kernel), List.mem_of_getElem? (i := 1445) (by decide +kernel)⟩
theorem lw_p55 : lw_okq (⟨"QuietTakeModel", "emit", "(II)V"⟩, 71) := ⟨⟨by decide +kernel, by decide +kernel⟩, List.mem_of_getElem? (i := 1112) (by decide +kernel), List.mem_of_getElem? (i := 1448) (by decide +kernel), List.mem_of_getElem? (i := 1449) (by decide +kernel)⟩
theorem lw_p56 : lw_okq (⟨"QuietTakeModel", "comesOut", "(Z)V"⟩, 71) := ⟨⟨by decide +kernel, by decide +kernel⟩, List.mem_of_getElem? (i := 1112) (by decide +kernel), List.mem_of_getElem? (i := 1452) (by decide +kernel), List.mem_of_getElem? (i := 1453) (by decide +kernel)⟩
theorem lw_p57 : lw_okq (⟨"QuietTakeModel", "term", "()V"⟩, 71) := ⟨⟨by decide +kernel, by decide +kernel⟩, List.mem_of_getElem? (i := 1112) (by decide +kernel), List.mem_of_getElem? (i := 1456) (by decide +kernel), List.mem_of_getElem? (i := 1457) (by decide +kernel)⟩
theorem lw_p58 : lw_okq (⟨"QuietTakeModel", "isNoise", "(I)Z"⟩, 71) := ⟨⟨by decide +kernel, by decide +kernel⟩, List.mem_of_getElem? (i := 1112) (by decide +kernel), List.mem_of_getElem? (i := 1468) (by decide +kernel), List.mem_of_getElem? (i := 1469) (by decide +kernel)⟩
theorem lw_p59 : lw_okq (⟨"QuietTakeModel", "copies", "()V"⟩, 71) := ⟨⟨by decide +kernel, by decide +kernel⟩, List.mem_of_getElem? (i := 1112) (by decide +kernel), List.mem_of_getElem? (i := 1475) (by decide +kernel), List.mem_of_getElem? (i := 1476) (by decide +kernel)⟩
theorem lw_p60 : lw_okq (⟨"QuietTakeModel", "isOn", "(I)I"⟩, 71) := ⟨⟨by decide +kernel, by decide +kernel⟩, List.mem_of_getElem? (i := 1112) (by decide +kernel), List.mem_of_getElem? (i := 1479) (by decide +kernel), List.mem_of_getElem? (i := 1480) (by decide +kernel)⟩
theorem lw_p61 : lw_okq (⟨"QuietTakeModel", "ageNow", "(II)I"⟩, 71) := ⟨⟨by decide +kernel, by decide +kernel⟩, List.mem_of_getElem? (i := 1112) (by decide +kernel), List.mem_of_getElem? (i := 1483) (by decide +kernel), List.mem_of_getElem? (i := 1484) (by decide +kernel)⟩
theorem lw_p62 : lw_okq (⟨"QuietTakeModel", "ageOf", "(II)I"⟩, 71) := ⟨⟨by decide +kernel, by decide +kernel⟩, List.mem_of_getElem? (i := 1112) (by decide +kernel), List.mem_of_getElem? (i := 1487) (by decide +kernel), List.mem_of_getElem? (i := 1488) (by decide +kernel)⟩
theorem lw_p63 : lw_okq (⟨"QuietTakeModel", "lastBegun", "(II)I"⟩, 71) := ⟨⟨by decide +kernel, by decide +kernel⟩, List.mem_of_getElem? (i := 1112) (by decide +kernel), List.mem_of_getElem? (i := 1491) (by decide +kernel), List.mem_of_getElem? (i := 1492) (by decide +kernel)⟩
def lw_privs_4 : List (MethodName × Nat) := [(⟨"QuietTakeModel", "wrong", "(II)V"⟩, 71), (⟨"QuietTakeModel", "bounded", "(II)I"⟩, 71), (⟨"QuietTakeModel", "ends", "(I)V"⟩, 71), (⟨"QuietTakeModel", "tellShot", "()V"⟩, 71), (⟨"QuietTakeModel", "tellLaw", "(I)V"⟩, 71), (⟨"QuietTakeModel", "expression", "()V"⟩, 71), (⟨"QuietTakeModel", "unit", "()V"⟩, 71), (⟨"QuietTakeModel", "emit", "(II)V"⟩, 71), (⟨"QuietTakeModel", "comesOut", "(Z)V"⟩, 71), (⟨"QuietTakeModel", "term", "()V"⟩, 71), (⟨"QuietTakeModel", "isNoise", "(I)Z"⟩, 71), (⟨"QuietTakeModel", "copies", "()V"⟩, 71), (⟨"QuietTakeModel", "isOn", "(I)I"⟩, 71), (⟨"QuietTakeModel", "ageNow", "(II)I"⟩, 71), (⟨"QuietTakeModel", "ageOf", "(II)I"⟩, 71), (⟨"QuietTakeModel", "lastBegun", "(II)I"⟩, 71)]
theorem lw_r4 : ∀ q ∈ lw_privs_4, lw_okq q := List.forall_mem_cons.mpr ⟨lw_p48, List.forall_mem_cons.mpr ⟨lw_p49, List.forall_mem_cons.mpr ⟨lw_p50, List.forall_mem_cons.mpr ⟨lw_p51, List.forall_mem_cons.mpr ⟨lw_p52, List.forall_mem_cons.mpr ⟨lw_p53, List.forall_mem_cons.mpr ⟨lw_p54, List.forall_mem_cons.mpr ⟨lw_p55, List.forall_mem_cons.mpr ⟨lw_p56, List.forall_mem_cons.mpr ⟨lw_p57, List.forall_mem_cons.mpr ⟨lw_p58, List.forall_mem_cons.mpr ⟨lw_p59, List.forall_mem_cons.mpr ⟨lw_p60, List.forall_mem_cons.mpr ⟨lw_p61, List.forall_mem_cons.mpr ⟨lw_p62, List.forall_mem_cons.mpr ⟨lw_p63, fun _ h => absurd h List.not_mem_nil⟩⟩⟩⟩⟩⟩⟩⟩⟩⟩⟩⟩⟩⟩⟩⟩
theorem lw_p64 : lw_okq (⟨"QuietTakeModel", "lotOf", "(I)I"⟩, 71) := ⟨⟨by decide +kernel, by decide +kernel⟩, List.mem_of_getElem? (i := 1112) (by decide +kernel), List.mem_of_getElem? (i := 1495) (by decide +kernel), List.mem_of_getElem? (i := 1496) (by decide +kernel)⟩
theorem lw_p65 : lw_okq (⟨"QuietTakeModel", "isShot", "(I)Z"⟩, 71) := ⟨⟨by decide +kernel, by decide +kernel⟩, List.mem_of_getElem? (i := 1112) (by decide +kernel), List.mem_of_getElem? (i := 1507) (by decide +kernel), List.mem_of_getElem? (i := 1508) (by decide +kernel)⟩
theorem lw_p66 : lw_okq (⟨"QuietTakeModel", "longFor", "(I)I"⟩, 71) := ⟨⟨by decide +kernel, by decide +kernel⟩, List.mem_of_getElem? (i := 1112) (by decide +kernel), List.mem_of_getElem? (i := 1511) (by decide +kernel), List.mem_of_getElem? (i := 1512) (by decide +kernel)⟩
theorem lw_p67 : lw_okq (⟨"QuietTakeModel", "isWhole", "(II)Z"⟩, 71) := ⟨⟨by decide +kernel, by decide +kernel⟩, List.mem_of_getElem? (i := 1112) (by decide +kernel), List.mem_of_getElem? (i := 1515) (by decide +kernel), List.mem_of_getElem? (i := 1516) (by decide +kernel)⟩
theorem lw_p68 : lw_okq (⟨"QuietTakeModel", "isPlace", "(I)Z"⟩, 71) := ⟨⟨by decide +kernel, by decide +kernel⟩, List.mem_of_getElem? (i := 1112) (by decide +kernel), List.mem_of_getElem? (i := 1523) (by decide +kernel), List.mem_of_getElem? (i := 1524) (by decide +kernel)⟩
theorem lw_p69 : lw_okq (⟨"QuietTakeModel", "heardNow", "(III)I"⟩, 71) := ⟨⟨by decide +kernel, by decide +kernel⟩, List.mem_of_getElem? (i := 1112) (by decide +kernel), List.mem_of_getElem? (i := 1527) (by decide +kernel), List.mem_of_getElem? (i := 1528) (by decide +kernel)⟩
theorem lw_p70 : lw_okq (⟨"QuietTakeModel", "heardBy", "(IIII)I"⟩, 71) := ⟨⟨by decide +kernel, by decide +kernel⟩, List.mem_of_getElem? (i := 1112) (by decide +kernel), List.mem_of_getElem? (i := 1531) (by decide +kernel), List.mem_of_getElem? (i := 1532) (by decide +kernel)⟩
theorem lw_p71 : lw_okq (⟨"QuietTakeModel", "looks", "(I)V"⟩, 71) := ⟨⟨by decide +kernel, by decide +kernel⟩, List.mem_of_getElem? (i := 1112) (by decide +kernel), List.mem_of_getElem? (i := 1535) (by decide +kernel), List.mem_of_getElem? (i := 1536) (by decide +kernel)⟩
theorem lw_p72 : lw_okq (⟨"QuietTakeModel", "asks", "(III)I"⟩, 71) := ⟨⟨by decide +kernel, by decide +kernel⟩, List.mem_of_getElem? (i := 1112) (by decide +kernel), List.mem_of_getElem? (i := 1539) (by decide +kernel), List.mem_of_getElem? (i := 1540) (by decide +kernel)⟩
theorem lw_p73 : lw_okq (⟨"QuietTakeModel", "termOf", "(II)I"⟩, 71) := ⟨⟨by decide +kernel, by decide +kernel⟩, List.mem_of_getElem? (i := 1112) (by decide +kernel), List.mem_of_getElem? (i := 1543) (by decide +kernel), List.mem_of_getElem? (i := 1544) (by decide +kernel)⟩
theorem lw_p74 : lw_okq (⟨"QuietTakeModel", "loudIn", "(II)I"⟩, 71) := ⟨⟨by decide +kernel, by decide +kernel⟩, List.mem_of_getElem? (i := 1112) (by decide +kernel), List.mem_of_getElem? (i := 1551) (by decide +kernel), List.mem_of_getElem? (i := 1552) (by decide +kernel)⟩
theorem lw_p75 : lw_okq (⟨"QuietTakeModel", "mostHeard", "(II)I"⟩, 71) := ⟨⟨by decide +kernel, by decide +kernel⟩, List.mem_of_getElem? (i := 1112) (by decide +kernel), List.mem_of_getElem? (i := 1555) (by decide +kernel), List.mem_of_getElem? (i := 1556) (by decide +kernel)⟩
theorem lw_p76 : lw_okq (⟨"QuietTakeModel", "rustling", "(I)I"⟩, 71) := ⟨⟨by decide +kernel, by decide +kernel⟩, List.mem_of_getElem? (i := 1112) (by decide +kernel), List.mem_of_getElem? (i := 1559) (by decide +kernel), List.mem_of_getElem? (i := 1560) (by decide +kernel)⟩
theorem lw_p77 : lw_okq (⟨"QuietTakeModel", "bearsIn", "(III)I"⟩, 71) := ⟨⟨by decide +kernel, by decide +kernel⟩, List.mem_of_getElem? (i := 1112) (by decide +kernel), List.mem_of_getElem? (i := 1568) (by decide +kernel), List.mem_of_getElem? (i := 1569) (by decide +kernel)⟩
theorem lw_p78 : lw_okq (⟨"QuietTakeModel", "fillsLoud", "(II)V"⟩, 71) := ⟨⟨by decide +kernel, by decide +kernel⟩, List.mem_of_getElem? (i := 1112) (by decide +kernel), List.mem_of_getElem? (i := 1576) (by decide +kernel), List.mem_of_getElem? (i := 1577) (by decide +kernel)⟩
theorem lw_p79 : lw_okq (⟨"QuietTakeModel", "clearFrom", "(II)I"⟩, 71) := ⟨⟨by decide +kernel, by decide +kernel⟩, List.mem_of_getElem? (i := 1112) (by decide +kernel), List.mem_of_getElem? (i := 1580) (by decide +kernel), List.mem_of_getElem? (i := 1581) (by decide +kernel)⟩
def lw_privs_5 : List (MethodName × Nat) := [(⟨"QuietTakeModel", "lotOf", "(I)I"⟩, 71), (⟨"QuietTakeModel", "isShot", "(I)Z"⟩, 71), (⟨"QuietTakeModel", "longFor", "(I)I"⟩, 71), (⟨"QuietTakeModel", "isWhole", "(II)Z"⟩, 71), (⟨"QuietTakeModel", "isPlace", "(I)Z"⟩, 71), (⟨"QuietTakeModel", "heardNow", "(III)I"⟩, 71), (⟨"QuietTakeModel", "heardBy", "(IIII)I"⟩, 71), (⟨"QuietTakeModel", "looks", "(I)V"⟩, 71), (⟨"QuietTakeModel", "asks", "(III)I"⟩, 71), (⟨"QuietTakeModel", "termOf", "(II)I"⟩, 71), (⟨"QuietTakeModel", "loudIn", "(II)I"⟩, 71), (⟨"QuietTakeModel", "mostHeard", "(II)I"⟩, 71), (⟨"QuietTakeModel", "rustling", "(I)I"⟩, 71), (⟨"QuietTakeModel", "bearsIn", "(III)I"⟩, 71), (⟨"QuietTakeModel", "fillsLoud", "(II)V"⟩, 71), (⟨"QuietTakeModel", "clearFrom", "(II)I"⟩, 71)]
theorem lw_r5 : ∀ q ∈ lw_privs_5, lw_okq q := List.forall_mem_cons.mpr ⟨lw_p64, List.forall_mem_cons.mpr ⟨lw_p65, List.forall_mem_cons.mpr ⟨lw_p66, List.forall_mem_cons.mpr ⟨lw_p67, List.forall_mem_cons.mpr ⟨lw_p68, List.forall_mem_cons.mpr ⟨lw_p69, List.forall_mem_cons.mpr ⟨lw_p70, List.forall_mem_cons.mpr ⟨lw_p71, List.forall_mem_cons.mpr ⟨lw_p72, List.forall_mem_cons.mpr ⟨lw_p73, List.forall_mem_cons.mpr ⟨lw_p74, List.forall_mem_cons.mpr ⟨lw_p75, List.forall_mem_cons.mpr ⟨lw_p76, List.forall_mem_cons.mpr ⟨lw_p77, List.forall_mem_cons.mpr ⟨lw_p78, List.forall_mem_cons.mpr ⟨lw_p79, fun _ h => absurd h List.not_mem_nil⟩⟩⟩⟩⟩⟩⟩⟩⟩⟩⟩⟩⟩⟩⟩⟩
theorem lw_p80 : lw_okq (⟨"QuietTakeModel", "stands", "(I)V"⟩, 71) := ⟨⟨by decide +kernel, by decide +kernel⟩, List.mem_of_getElem? (i := 1112) (by decide +kernel), List.mem_of_getElem? (i := 1584) (by decide +kernel), List.mem_of_getElem? (i := 1585) (by decide +kernel)⟩
theorem lw_p81 : lw_okq (⟨"QuietTakeModel", "keeps", "()V"⟩, 71) := ⟨⟨by decide +kernel, by decide +kernel⟩, List.mem_of_getElem? (i := 1112) (by decide +kernel), List.mem_of_getElem? (i := 1588) (by decide +kernel), List.mem_of_getElem? (i := 1589) (by decide +kernel)⟩
theorem lw_p82 : lw_okq (⟨"QuietTakeModel", "pays", "(II)V"⟩, 71) := ⟨⟨by decide +kernel, by decide +kernel⟩, List.mem_of_getElem? (i := 1112) (by decide +kernel), List.mem_of_getElem? (i := 1608) (by decide +kernel), List.mem_of_getElem? (i := 1609) (by decide +kernel)⟩
theorem lw_p83 : lw_okq (⟨"QuietTakeModel", "isAsked", "(II)Z"⟩, 71) := ⟨⟨by decide +kernel, by decide +kernel⟩, List.mem_of_getElem? (i := 1112) (by decide +kernel), List.mem_of_getElem? (i := 1620) (by decide +kernel), List.mem_of_getElem? (i := 1621) (by decide +kernel)⟩
theorem lw_p84 : lw_okq (⟨"QuietTakeModel", "isHole", "(III)Z"⟩, 71) := ⟨⟨by decide +kernel, by decide +kernel⟩, List.mem_of_getElem? (i := 1112) (by decide +kernel), List.mem_of_getElem? (i := 1624) (by decide +kernel), List.mem_of_getElem? (i := 1625) (by decide +kernel)⟩
theorem lw_p85 : lw_okq (⟨"QuietTakeModel", "mostIn", "(II)I"⟩, 71) := ⟨⟨by decide +kernel, by decide +kernel⟩, List.mem_of_getElem? (i := 1112) (by decide +kernel), List.mem_of_getElem? (i := 1636) (by decide +kernel), List.mem_of_getElem? (i := 1637) (by decide +kernel)⟩
theorem lw_p86 : lw_okq (⟨"QuietTakeModel", "isLoudest", "(III)Z"⟩, 71) := ⟨⟨by decide +kernel, by decide +kernel⟩, List.mem_of_getElem? (i := 1112) (by decide +kernel), List.mem_of_getElem? (i := 1648) (by decide +kernel), List.mem_of_getElem? (i := 1649) (by decide +kernel)⟩
theorem lw_p87 : lw_okq (⟨"QuietTakeModel", "soonest", "(II)I"⟩, 71) := ⟨⟨by decide +kernel, by decide +kernel⟩, List.mem_of_getElem? (i := 1112) (by decide +kernel), List.mem_of_getElem? (i := 1668) (by decide +kernel), List.mem_of_getElem? (i := 1669) (by decide +kernel)⟩
theorem lw_p88 : lw_okq (⟨"QuietTakeModel", "isGood", "(II)Z"⟩, 71) := ⟨⟨by decide +kernel, by decide +kernel⟩, List.mem_of_getElem? (i := 1112) (by decide +kernel), List.mem_of_getElem? (i := 1672) (by decide +kernel), List.mem_of_getElem? (i := 1673) (by decide +kernel)⟩
theorem lw_p89 : lw_okq (⟨"QuietTakeModel", "findsDue", "()V"⟩, 71) := ⟨⟨by decide +kernel, by decide +kernel⟩, List.mem_of_getElem? (i := 1112) (by decide +kernel), List.mem_of_getElem? (i := 1680) (by decide +kernel), List.mem_of_getElem? (i := 1681) (by decide +kernel)⟩
theorem lw_p90 : lw_okq (⟨"QuietTakeModel", "fillsOrder", "()V"⟩, 71) := ⟨⟨by decide +kernel, by decide +kernel⟩, List.mem_of_getElem? (i := 1112) (by decide +kernel), List.mem_of_getElem? (i := 1684) (by decide +kernel), List.mem_of_getElem? (i := 1685) (by decide +kernel)⟩
theorem lw_p91 : lw_okq (⟨"QuietTakeModel", "fillsDue", "()V"⟩, 71) := ⟨⟨by decide +kernel, by decide +kernel⟩, List.mem_of_getElem? (i := 1112) (by decide +kernel), List.mem_of_getElem? (i := 1688) (by decide +kernel), List.mem_of_getElem? (i := 1689) (by decide +kernel)⟩
theorem lw_p92 : lw_okq (⟨"QuietTakeModel", "endBy", "(II)I"⟩, 71) := ⟨⟨by decide +kernel, by decide +kernel⟩, List.mem_of_getElem? (i := 1112) (by decide +kernel), List.mem_of_getElem? (i := 1695) (by decide +kernel), List.mem_of_getElem? (i := 1696) (by decide +kernel)⟩
theorem lw_p93 : lw_okq (⟨"QuietTakeModel", "shotsOf", "(I)I"⟩, 71) := ⟨⟨by decide +kernel, by decide +kernel⟩, List.mem_of_getElem? (i := 1112) (by decide +kernel), List.mem_of_getElem? (i := 1709) (by decide +kernel), List.mem_of_getElem? (i := 1710) (by decide +kernel)⟩
theorem lw_p94 : lw_okq (⟨"QuietTakeModel", "isSo", "(II)Z"⟩, 71) := ⟨⟨by decide +kernel, by decide +kernel⟩, List.mem_of_getElem? (i := 1112) (by decide +kernel), List.mem_of_getElem? (i := 1745) (by decide +kernel), List.mem_of_getElem? (i := 1746) (by decide +kernel)⟩
def lw_privs_6 : List (MethodName × Nat) := [(⟨"QuietTakeModel", "stands", "(I)V"⟩, 71), (⟨"QuietTakeModel", "keeps", "()V"⟩, 71), (⟨"QuietTakeModel", "pays", "(II)V"⟩, 71), (⟨"QuietTakeModel", "isAsked", "(II)Z"⟩, 71), (⟨"QuietTakeModel", "isHole", "(III)Z"⟩, 71), (⟨"QuietTakeModel", "mostIn", "(II)I"⟩, 71), (⟨"QuietTakeModel", "isLoudest", "(III)Z"⟩, 71), (⟨"QuietTakeModel", "soonest", "(II)I"⟩, 71), (⟨"QuietTakeModel", "isGood", "(II)Z"⟩, 71), (⟨"QuietTakeModel", "findsDue", "()V"⟩, 71), (⟨"QuietTakeModel", "fillsOrder", "()V"⟩, 71), (⟨"QuietTakeModel", "fillsDue", "()V"⟩, 71), (⟨"QuietTakeModel", "endBy", "(II)I"⟩, 71), (⟨"QuietTakeModel", "shotsOf", "(I)I"⟩, 71), (⟨"QuietTakeModel", "isSo", "(II)Z"⟩, 71)]
theorem lw_r6 : ∀ q ∈ lw_privs_6, lw_okq q := List.forall_mem_cons.mpr ⟨lw_p80, List.forall_mem_cons.mpr ⟨lw_p81, List.forall_mem_cons.mpr ⟨lw_p82, List.forall_mem_cons.mpr ⟨lw_p83, List.forall_mem_cons.mpr ⟨lw_p84, List.forall_mem_cons.mpr ⟨lw_p85, List.forall_mem_cons.mpr ⟨lw_p86, List.forall_mem_cons.mpr ⟨lw_p87, List.forall_mem_cons.mpr ⟨lw_p88, List.forall_mem_cons.mpr ⟨lw_p89, List.forall_mem_cons.mpr ⟨lw_p90, List.forall_mem_cons.mpr ⟨lw_p91, List.forall_mem_cons.mpr ⟨lw_p92, List.forall_mem_cons.mpr ⟨lw_p93, List.forall_mem_cons.mpr ⟨lw_p94, fun _ h => absurd h List.not_mem_nil⟩⟩⟩⟩⟩⟩⟩⟩⟩⟩⟩⟩⟩⟩⟩
def lw_privs : List (MethodName × Nat) := lw_privs_1 ++ (lw_privs_2 ++ (lw_privs_3 ++ (lw_privs_4 ++ (lw_privs_5 ++ (lw_privs_6)))))
def lw_tbl : List Cond := k2_sels lw_privs ++ tables_1
theorem lw_privs_ok : ∀ q ∈ lw_privs, lw_okq q := by
  show ∀ q ∈ lw_privs_1 ++ (lw_privs_2 ++ (lw_privs_3 ++ (lw_privs_4 ++ (lw_privs_5 ++ (lw_privs_6))))), lw_okq q
  exact List.forall_mem_append.mpr ⟨lw_r1, List.forall_mem_append.mpr ⟨lw_r2, List.forall_mem_append.mpr ⟨lw_r3, List.forall_mem_append.mpr ⟨lw_r4, List.forall_mem_append.mpr ⟨lw_r5, lw_r6⟩⟩⟩⟩⟩
-- ===== end of PART A; then your names; then what follows =====
end
section
def RX0 : String := "QuietTake$Ears"
def TX0 : u_T := fun k => match k with
  | 0 => ("QuietTake$Ears", "script", "LQuietTake$Script;", true)
  | 1 => ("QuietTake$Ears", "hearVars", "[I", true)
  | 2 => ("QuietTake$Ears", "bearsVars", "[I", true)
  | 3 => ("QuietTake$Ears", "rustlesVars", "[I", true)
  | 4 => ("QuietTake$Ears", "asked", "[I", true)
  | 5 => ("QuietTake$Ears", "begun", "[I", true)
  | _ => ("QuietTake$Ears", "seed", "I", false)
def tyX0 : Nat → FieldType := fun k => match k with
  | 0 => .object "QuietTake$Script"
  | 1 => .array .int
  | 2 => .array .int
  | 3 => .array .int
  | 4 => .array .int
  | 5 => .array .int
  | _ => .int
theorem nmX0 : ∀ a, a < 7 → ∀ b, b < 7 → a ≠ b → (TX0 a).2.1 ≠ (TX0 b).2.1 := by decide +kernel
theorem tyX0_ok : ∀ k, k < 7 → parseFieldDescriptor (TX0 k).2.2.1 = some (tyX0 k) := by decide +kernel
abbrev cX0_init : ByteArray := prog_2_method_1_code
def yX0_init : MethodName := ⟨RX0, "<init>", "(LQuietTake$Script;)V"⟩
abbrev cX0_tune : ByteArray := prog_2_method_2_code
def yX0_tune : MethodName := ⟨RX0, "tune", "(I)V"⟩
abbrev cX0_lot : ByteArray := prog_2_method_3_code
def yX0_lot : MethodName := ⟨RX0, "lot", "(I)I"⟩
abbrev cX0_ageOf : ByteArray := prog_2_method_4_code
def yX0_ageOf : MethodName := ⟨RX0, "ageOf", "(III)I"⟩
abbrev cX0_latestBegin : ByteArray := prog_2_method_5_code
def yX0_latestBegin : MethodName := ⟨RX0, "latestBegin", "(II)I"⟩
abbrev cX0_heardOf : ByteArray := prog_2_method_6_code
def yX0_heardOf : MethodName := ⟨RX0, "heardOf", "(IIII)I"⟩
abbrev cX0_borne : ByteArray := prog_2_method_7_code
def yX0_borne : MethodName := ⟨RX0, "borne", "(III)I"⟩
abbrev cX0_isRustling : ByteArray := prog_2_method_8_code
def yX0_isRustling : MethodName := ⟨RX0, "isRustling", "(II)Z"⟩
def RX1 : String := "QuietTake$History"
def TX1 : u_T := fun k => match k with
  | 0 => ("QuietTake$History", "ring", "[LQuietTake$State;", true)
  | 1 => ("QuietTake$History", "top", "I", false)
  | _ => ("QuietTake$History", "size", "I", false)
def tyX1 : Nat → FieldType := fun k => match k with
  | 0 => .array (.object "QuietTake$State")
  | 1 => .int
  | _ => .int
theorem nmX1 : ∀ a, a < 3 → ∀ b, b < 3 → a ≠ b → (TX1 a).2.1 ≠ (TX1 b).2.1 := by decide +kernel
theorem tyX1_ok : ∀ k, k < 3 → parseFieldDescriptor (TX1 k).2.2.1 = some (tyX1 k) := by decide +kernel
abbrev cX1_init : ByteArray := prog_3_method_1_code
def yX1_init : MethodName := ⟨RX1, "<init>", "()V"⟩
abbrev cX1_push : ByteArray := prog_3_method_2_code
def yX1_push : MethodName := ⟨RX1, "push", "(LQuietTake$State;)V"⟩
abbrev cX1_pop : ByteArray := prog_3_method_3_code
def yX1_pop : MethodName := ⟨RX1, "pop", "(LQuietTake$State;)V"⟩
def RX2 : String := "QuietTake$Law"
def TX2 : u_T := fun k => match k with
  | 0 => ("QuietTake$Law", "code", "[I", true)
  | 1 => ("QuietTake$Law", "parts", "[I", true)
  | 2 => ("QuietTake$Law", "operators", "[I", true)
  | 3 => ("QuietTake$Law", "used", "I", false)
  | _ => ("QuietTake$Law", "open", "I", false)
def tyX2 : Nat → FieldType := fun k => match k with
  | 0 => .array .int
  | 1 => .array .int
  | 2 => .array .int
  | 3 => .int
  | _ => .int
theorem nmX2 : ∀ a, a < 5 → ∀ b, b < 5 → a ≠ b → (TX2 a).2.1 ≠ (TX2 b).2.1 := by decide +kernel
theorem tyX2_ok : ∀ k, k < 5 → parseFieldDescriptor (TX2 k).2.2.1 = some (tyX2 k) := by decide +kernel
abbrev cX2_init : ByteArray := prog_4_method_1_code
def yX2_init : MethodName := ⟨RX2, "<init>", "()V"⟩
abbrev cX2_becomeOnly : ByteArray := prog_4_method_2_code
def yX2_becomeOnly : MethodName := ⟨RX2, "becomeOnly", "(I)V"⟩
abbrev cX2_learn : ByteArray := prog_4_method_3_code
def yX2_learn : MethodName := ⟨RX2, "learn", "(LQuietTake$Tokens;I)V"⟩
abbrev cX2_endSum : ByteArray := prog_4_method_4_code
def yX2_endSum : MethodName := ⟨RX2, "endSum", "(I)V"⟩
abbrev cX2_rankOf : ByteArray := prog_4_method_5_code
def yX2_rankOf : MethodName := ⟨RX2, "rankOf", "(I)I"⟩
abbrev cX2_putOperator : ByteArray := prog_4_method_6_code
def yX2_putOperator : MethodName := ⟨RX2, "putOperator", "(I)V"⟩
abbrev cX2_emitOperators : ByteArray := prog_4_method_7_code
def yX2_emitOperators : MethodName := ⟨RX2, "emitOperators", "(I)V"⟩
abbrev cX2_emit : ByteArray := prog_4_method_8_code
def yX2_emit : MethodName := ⟨RX2, "emit", "(I)V"⟩
abbrev cX2_answer : ByteArray := prog_4_method_9_code
def yX2_answer : MethodName := ⟨RX2, "answer", "([I)I"⟩
def RX3 : String := "QuietTake$Plan"
def TX3 : u_T := fun k => match k with
  | 0 => ("QuietTake$Plan", "script", "LQuietTake$Script;", true)
  | 1 => ("QuietTake$Plan", "state", "LQuietTake$State;", true)
  | 2 => ("QuietTake$Plan", "survey", "LQuietTake$Survey;", true)
  | 3 => ("QuietTake$Plan", "shots", "[I", true)
  | 4 => ("QuietTake$Plan", "trail", "[I", true)
  | 5 => ("QuietTake$Plan", "ends", "[I", true)
  | 6 => ("QuietTake$Plan", "order", "[I", true)
  | _ => ("QuietTake$Plan", "size", "I", false)
def tyX3 : Nat → FieldType := fun k => match k with
  | 0 => .object "QuietTake$Script"
  | 1 => .object "QuietTake$State"
  | 2 => .object "QuietTake$Survey"
  | 3 => .array .int
  | 4 => .array .int
  | 5 => .array .int
  | 6 => .array .int
  | _ => .int
theorem nmX3 : ∀ a, a < 8 → ∀ b, b < 8 → a ≠ b → (TX3 a).2.1 ≠ (TX3 b).2.1 := by decide +kernel
theorem tyX3_ok : ∀ k, k < 8 → parseFieldDescriptor (TX3 k).2.2.1 = some (tyX3 k) := by decide +kernel
abbrev cX3_init : ByteArray := prog_5_method_1_code
def yX3_init : MethodName := ⟨RX3, "<init>", "(LQuietTake$Script;LQuietTake$State;LQuietTake$Survey;)V"⟩
abbrev cX3_gather : ByteArray := prog_5_method_2_code
def yX3_gather : MethodName := ⟨RX3, "gather", "()V"⟩
abbrev cX3_all : ByteArray := prog_5_method_3_code
def yX3_all : MethodName := ⟨RX3, "all", "()I"⟩
abbrev cX3_visit : ByteArray := prog_5_method_4_code
def yX3_visit : MethodName := ⟨RX3, "visit", "(III)V"⟩
abbrev cX3_keepIfSooner : ByteArray := prog_5_method_5_code
def yX3_keepIfSooner : MethodName := ⟨RX3, "keepIfSooner", "(II)V"⟩
abbrev cX3_fewestLeft : ByteArray := prog_5_method_6_code
def yX3_fewestLeft : MethodName := ⟨RX3, "fewestLeft", "(I)I"⟩
abbrev cX3_shotBits : ByteArray := prog_5_method_7_code
def yX3_shotBits : MethodName := ⟨RX3, "shotBits", "(I)I"⟩
def RX4 : String := "QuietTake$Reader"
def TX4 : u_T := fun k => match k with
  | 0 => ("QuietTake$Reader", "tokens", "LQuietTake$Tokens;", true)
  | 1 => ("QuietTake$Reader", "names", "[J", true)
  | 2 => ("QuietTake$Reader", "named", "I", false)
  | 3 => ("QuietTake$Reader", "noises", "I", false)
  | 4 => ("QuietTake$Reader", "places", "I", false)
  | 5 => ("QuietTake$Reader", "shots", "I", false)
  | 6 => ("QuietTake$Reader", "at", "I", false)
  | 7 => ("QuietTake$Reader", "faultToken", "I", false)
  | 8 => ("QuietTake$Reader", "fault", "I", false)
  | _ => ("QuietTake$Reader", "faultPlace", "I", false)
def tyX4 : Nat → FieldType := fun k => match k with
  | 0 => .object "QuietTake$Tokens"
  | 1 => .array .long
  | 2 => .int
  | 3 => .int
  | 4 => .int
  | 5 => .int
  | 6 => .int
  | 7 => .int
  | 8 => .int
  | _ => .int
theorem nmX4 : ∀ a, a < 10 → ∀ b, b < 10 → a ≠ b → (TX4 a).2.1 ≠ (TX4 b).2.1 := by decide +kernel
theorem tyX4_ok : ∀ k, k < 10 → parseFieldDescriptor (TX4 k).2.2.1 = some (tyX4 k) := by decide +kernel
abbrev cX4_init : ByteArray := prog_6_method_1_code
def yX4_init : MethodName := ⟨RX4, "<init>", "(LQuietTake$Tokens;)V"⟩
abbrev cX4_check : ByteArray := prog_6_method_2_code
def yX4_check : MethodName := ⟨RX4, "check", "()V"⟩
abbrev cX4_refuse : ByteArray := prog_6_method_3_code
def yX4_refuse : MethodName := ⟨RX4, "refuse", "(II)V"⟩
abbrev cX4_pass : ByteArray := prog_6_method_4_code
def yX4_pass : MethodName := ⟨RX4, "pass", "()V"⟩
abbrev cX4_passOnly : ByteArray := prog_6_method_5_code
def yX4_passOnly : MethodName := ⟨RX4, "passOnly", "(I)V"⟩
abbrev cX4_passTell : ByteArray := prog_6_method_6_code
def yX4_passTell : MethodName := ⟨RX4, "passTell", "()V"⟩
abbrev cX4_oneMore : ByteArray := prog_6_method_7_code
def yX4_oneMore : MethodName := ⟨RX4, "oneMore", "(II)I"⟩
abbrev cX4_passNamed : ByteArray := prog_6_method_8_code
def yX4_passNamed : MethodName := ⟨RX4, "passNamed", "(I)V"⟩
abbrev cX4_passLaw : ByteArray := prog_6_method_9_code
def yX4_passLaw : MethodName := ⟨RX4, "passLaw", "()V"⟩
abbrev cX4_passSum : ByteArray := prog_6_method_10_code
def yX4_passSum : MethodName := ⟨RX4, "passSum", "(I)V"⟩
abbrev cX4_isVar : ByteArray := prog_6_method_11_code
def yX4_isVar : MethodName := ⟨RX4, "isVar", "(I)Z"⟩
abbrev cX4_isOperator : ByteArray := prog_6_method_12_code
def yX4_isOperator : MethodName := ⟨RX4, "isOperator", "(I)Z"⟩
abbrev cX4_checkNamesAndNumbers : ByteArray := prog_6_method_13_code
def yX4_checkNamesAndNumbers : MethodName := ⟨RX4, "checkNamesAndNumbers", "()V"⟩
abbrev cX4_isNewName : ByteArray := prog_6_method_14_code
def yX4_isNewName : MethodName := ⟨RX4, "isNewName", "(J)Z"⟩
abbrev cX4_fits : ByteArray := prog_6_method_15_code
def yX4_fits : MethodName := ⟨RX4, "fits", "(III)Z"⟩
def RX5 : String := "QuietTake$Script"
def TX5 : u_T := fun k => match k with
  | 0 => ("QuietTake$Script", "noises", "I", false)
  | 1 => ("QuietTake$Script", "places", "I", false)
  | 2 => ("QuietTake$Script", "shots", "I", false)
  | 3 => ("QuietTake$Script", "clock", "[Z", true)
  | 4 => ("QuietTake$Script", "first", "[I", true)
  | 5 => ("QuietTake$Script", "every", "[I", true)
  | 6 => ("QuietTake$Script", "lasts", "[I", true)
  | 7 => ("QuietTake$Script", "loudness", "[I", true)
  | 8 => ("QuietTake$Script", "price", "[I", true)
  | 9 => ("QuietTake$Script", "far", "[I", true)
  | 10 => ("QuietTake$Script", "lengths", "[I", true)
  | 11 => ("QuietTake$Script", "limits", "[I", true)
  | 12 => ("QuietTake$Script", "hear", "LQuietTake$Law;", true)
  | 13 => ("QuietTake$Script", "bears", "LQuietTake$Law;", true)
  | 14 => ("QuietTake$Script", "rustles", "LQuietTake$Law;", true)
  | 15 => ("QuietTake$Script", "move", "I", false)
  | 16 => ("QuietTake$Script", "coins", "I", false)
  | _ => ("QuietTake$Script", "seed", "I", false)
def tyX5 : Nat → FieldType := fun k => match k with
  | 0 => .int
  | 1 => .int
  | 2 => .int
  | 3 => .array .boolean
  | 4 => .array .int
  | 5 => .array .int
  | 6 => .array .int
  | 7 => .array .int
  | 8 => .array .int
  | 9 => .array .int
  | 10 => .array .int
  | 11 => .array .int
  | 12 => .object "QuietTake$Law"
  | 13 => .object "QuietTake$Law"
  | 14 => .object "QuietTake$Law"
  | 15 => .int
  | 16 => .int
  | _ => .int
theorem nmX5 : ∀ a, a < 18 → ∀ b, b < 18 → a ≠ b → (TX5 a).2.1 ≠ (TX5 b).2.1 := by decide +kernel
theorem tyX5_ok : ∀ k, k < 18 → parseFieldDescriptor (TX5 k).2.2.1 = some (tyX5 k) := by decide +kernel
abbrev cX5_init : ByteArray := prog_7_method_1_code
def yX5_init : MethodName := ⟨RX5, "<init>", "()V"⟩
abbrev cX5_clear : ByteArray := prog_7_method_2_code
def yX5_clear : MethodName := ⟨RX5, "clear", "()V"⟩
abbrev cX5_learn : ByteArray := prog_7_method_3_code
def yX5_learn : MethodName := ⟨RX5, "learn", "(LQuietTake$Tokens;)V"⟩
abbrev cX5_learnTell : ByteArray := prog_7_method_4_code
def yX5_learnTell : MethodName := ⟨RX5, "learnTell", "(LQuietTake$Tokens;I)V"⟩
abbrev cX5_learnNoise : ByteArray := prog_7_method_5_code
def yX5_learnNoise : MethodName := ⟨RX5, "learnNoise", "(ZILQuietTake$Tokens;I)V"⟩
abbrev cX5_learnPlace : ByteArray := prog_7_method_6_code
def yX5_learnPlace : MethodName := ⟨RX5, "learnPlace", "(I)V"⟩
abbrev cX5_learnShot : ByteArray := prog_7_method_7_code
def yX5_learnShot : MethodName := ⟨RX5, "learnShot", "(II)V"⟩
abbrev cX5_allSeconds : ByteArray := prog_7_method_8_code
def yX5_allSeconds : MethodName := ⟨RX5, "allSeconds", "(I)I"⟩
abbrev cX5_priceOf : ByteArray := prog_7_method_9_code
def yX5_priceOf : MethodName := ⟨RX5, "priceOf", "(I)I"⟩
def RX6 : String := "QuietTake$State"
def TX6 : u_T := fun k => match k with
  | 0 => ("QuietTake$State", "second", "I", false)
  | 1 => ("QuietTake$State", "place", "I", false)
  | 2 => ("QuietTake$State", "stood", "I", false)
  | 3 => ("QuietTake$State", "coins", "I", false)
  | 4 => ("QuietTake$State", "paid", "[I", true)
  | 5 => ("QuietTake$State", "joined", "[I", true)
  | 6 => ("QuietTake$State", "taken", "[I", true)
  | _ => ("QuietTake$State", "good", "[I", true)
def tyX6 : Nat → FieldType := fun k => match k with
  | 0 => .int
  | 1 => .int
  | 2 => .int
  | 3 => .int
  | 4 => .array .int
  | 5 => .array .int
  | 6 => .array .int
  | _ => .array .int
theorem nmX6 : ∀ a, a < 8 → ∀ b, b < 8 → a ≠ b → (TX6 a).2.1 ≠ (TX6 b).2.1 := by decide +kernel
theorem tyX6_ok : ∀ k, k < 8 → parseFieldDescriptor (TX6 k).2.2.1 = some (tyX6 k) := by decide +kernel
abbrev cX6_init : ByteArray := prog_8_method_1_code
def yX6_init : MethodName := ⟨RX6, "<init>", "()V"⟩
abbrev cX6_clear : ByteArray := prog_8_method_2_code
def yX6_clear : MethodName := ⟨RX6, "clear", "(I)V"⟩
abbrev cX6_copy : ByteArray := prog_8_method_3_code
def yX6_copy : MethodName := ⟨RX6, "copy", "(LQuietTake$State;)V"⟩
abbrev cX6_stand : ByteArray := prog_8_method_4_code
def yX6_stand : MethodName := ⟨RX6, "stand", "(I)V"⟩
abbrev cX6_addTake : ByteArray := prog_8_method_5_code
def yX6_addTake : MethodName := ⟨RX6, "addTake", "(III)V"⟩
abbrev cX6_isDone : ByteArray := prog_8_method_6_code
def yX6_isDone : MethodName := ⟨RX6, "isDone", "(ILQuietTake$Script;)Z"⟩
abbrev cX6_allTakes : ByteArray := prog_8_method_7_code
def yX6_allTakes : MethodName := ⟨RX6, "allTakes", "()I"⟩
def RX7 : String := "QuietTake$Survey"
def TX7 : u_T := fun k => match k with
  | 0 => ("QuietTake$Survey", "script", "LQuietTake$Script;", true)
  | 1 => ("QuietTake$Survey", "state", "LQuietTake$State;", true)
  | 2 => ("QuietTake$Survey", "ears", "LQuietTake$Ears;", true)
  | 3 => ("QuietTake$Survey", "sounds", "[I", true)
  | 4 => ("QuietTake$Survey", "verdicts", "[I", true)
  | _ => ("QuietTake$Survey", "faced", "I", false)
def tyX7 : Nat → FieldType := fun k => match k with
  | 0 => .object "QuietTake$Script"
  | 1 => .object "QuietTake$State"
  | 2 => .object "QuietTake$Ears"
  | 3 => .array .int
  | 4 => .array .int
  | _ => .int
theorem nmX7 : ∀ a, a < 6 → ∀ b, b < 6 → a ≠ b → (TX7 a).2.1 ≠ (TX7 b).2.1 := by decide +kernel
theorem tyX7_ok : ∀ k, k < 6 → parseFieldDescriptor (TX7 k).2.2.1 = some (tyX7 k) := by decide +kernel
abbrev cX7_init : ByteArray := prog_9_method_1_code
def yX7_init : MethodName := ⟨RX7, "<init>", "(LQuietTake$Script;LQuietTake$State;LQuietTake$Ears;)V"⟩
abbrev cX7_drop : ByteArray := prog_9_method_2_code
def yX7_drop : MethodName := ⟨RX7, "drop", "()V"⟩
abbrev cX7_face : ByteArray := prog_9_method_3_code
def yX7_face : MethodName := ⟨RX7, "face", "(I)V"⟩
abbrev cX7_soundAt : ByteArray := prog_9_method_4_code
def yX7_soundAt : MethodName := ⟨RX7, "soundAt", "(I)I"⟩
abbrev cX7_topOf : ByteArray := prog_9_method_5_code
def yX7_topOf : MethodName := ⟨RX7, "topOf", "(I)I"⟩
abbrev cX7_leaderOf : ByteArray := prog_9_method_6_code
def yX7_leaderOf : MethodName := ⟨RX7, "leaderOf", "(I)I"⟩
abbrev cX7_rustlingOf : ByteArray := prog_9_method_7_code
def yX7_rustlingOf : MethodName := ⟨RX7, "rustlingOf", "(I)I"⟩
abbrev cX7_noiseWithout : ByteArray := prog_9_method_8_code
def yX7_noiseWithout : MethodName := ⟨RX7, "noiseWithout", "(II)I"⟩
abbrev cX7_noiseAt : ByteArray := prog_9_method_9_code
def yX7_noiseAt : MethodName := ⟨RX7, "noiseAt", "(I)I"⟩
abbrev cX7_greatest : ByteArray := prog_9_method_10_code
def yX7_greatest : MethodName := ⟨RX7, "greatest", "(III)I"⟩
abbrev cX7_heardOf : ByteArray := prog_9_method_11_code
def yX7_heardOf : MethodName := ⟨RX7, "heardOf", "(III)I"⟩
abbrev cX7_firstUnclear : ByteArray := prog_9_method_12_code
def yX7_firstUnclear : MethodName := ⟨RX7, "firstUnclear", "(III)I"⟩
abbrev cX7_clearSeconds : ByteArray := prog_9_method_13_code
def yX7_clearSeconds : MethodName := ⟨RX7, "clearSeconds", "(II)I"⟩
abbrev cX7_firstGood : ByteArray := prog_9_method_14_code
def yX7_firstGood : MethodName := ⟨RX7, "firstGood", "(III)I"⟩
abbrev cX7_firstGoodWithout : ByteArray := prog_9_method_15_code
def yX7_firstGoodWithout : MethodName := ⟨RX7, "firstGoodWithout", "(III)I"⟩
abbrev cX7_tooLoud : ByteArray := prog_9_method_16_code
def yX7_tooLoud : MethodName := ⟨RX7, "tooLoud", "(I)I"⟩
def RX8 : String := "QuietTake$Tape"
def TX8 : u_T := fun k => match k with
  | 0 => ("QuietTake$Tape", "bytes", "[B", true)
  | _ => ("QuietTake$Tape", "length", "I", false)
def tyX8 : Nat → FieldType := fun k => match k with
  | 0 => .array .byte
  | _ => .int
theorem nmX8 : ∀ a, a < 2 → ∀ b, b < 2 → a ≠ b → (TX8 a).2.1 ≠ (TX8 b).2.1 := by decide +kernel
theorem tyX8_ok : ∀ k, k < 2 → parseFieldDescriptor (TX8 k).2.2.1 = some (tyX8 k) := by decide +kernel
abbrev cX8_init : ByteArray := prog_10_method_1_code
def yX8_init : MethodName := ⟨RX8, "<init>", "()V"⟩
abbrev cX8_add : ByteArray := prog_10_method_2_code
def yX8_add : MethodName := ⟨RX8, "add", "(I)V"⟩
abbrev cX8_byteAt : ByteArray := prog_10_method_3_code
def yX8_byteAt : MethodName := ⟨RX8, "byteAt", "(I)I"⟩
def RX9 : String := "QuietTake$Tokens"
def TX9 : u_T := fun k => match k with
  | 0 => ("QuietTake$Tokens", "kinds", "[I", true)
  | 1 => ("QuietTake$Tokens", "places", "[I", true)
  | 2 => ("QuietTake$Tokens", "values", "[J", true)
  | 3 => ("QuietTake$Tokens", "textLength", "I", false)
  | _ => ("QuietTake$Tokens", "size", "I", false)
def tyX9 : Nat → FieldType := fun k => match k with
  | 0 => .array .int
  | 1 => .array .int
  | 2 => .array .long
  | 3 => .int
  | _ => .int
theorem nmX9 : ∀ a, a < 5 → ∀ b, b < 5 → a ≠ b → (TX9 a).2.1 ≠ (TX9 b).2.1 := by decide +kernel
theorem tyX9_ok : ∀ k, k < 5 → parseFieldDescriptor (TX9 k).2.2.1 = some (tyX9 k) := by decide +kernel
abbrev cX9_init : ByteArray := prog_11_method_1_code
def yX9_init : MethodName := ⟨RX9, "<init>", "()V"⟩
abbrev cX9_cut : ByteArray := prog_11_method_2_code
def yX9_cut : MethodName := ⟨RX9, "cut", "(LQuietTake$Tape;)V"⟩
abbrev cX9_kindAt : ByteArray := prog_11_method_3_code
def yX9_kindAt : MethodName := ⟨RX9, "kindAt", "(I)I"⟩
abbrev cX9_placeAt : ByteArray := prog_11_method_4_code
def yX9_placeAt : MethodName := ⟨RX9, "placeAt", "(I)I"⟩
abbrev cX9_valueAt : ByteArray := prog_11_method_5_code
def yX9_valueAt : MethodName := ⟨RX9, "valueAt", "(I)J"⟩
abbrev cX9_intAt : ByteArray := prog_11_method_6_code
def yX9_intAt : MethodName := ⟨RX9, "intAt", "(I)I"⟩
abbrev cX9_sortOf : ByteArray := prog_11_method_7_code
def yX9_sortOf : MethodName := ⟨RX9, "sortOf", "(I)I"⟩
abbrev cX9_runFrom : ByteArray := prog_11_method_8_code
def yX9_runFrom : MethodName := ⟨RX9, "runFrom", "(LQuietTake$Tape;II)I"⟩
abbrev cX9_kindOf : ByteArray := prog_11_method_9_code
def yX9_kindOf : MethodName := ⟨RX9, "kindOf", "(LQuietTake$Tape;III)I"⟩
abbrev cX9_wordOrName : ByteArray := prog_11_method_10_code
def yX9_wordOrName : MethodName := ⟨RX9, "wordOrName", "(LQuietTake$Tape;II)I"⟩
abbrev cX9_isWord : ByteArray := prog_11_method_11_code
def yX9_isWord : MethodName := ⟨RX9, "isWord", "(ILQuietTake$Tape;II)Z"⟩
abbrev cX9_valueOf : ByteArray := prog_11_method_12_code
def yX9_valueOf : MethodName := ⟨RX9, "valueOf", "(LQuietTake$Tape;III)J"⟩
def RX10 : String := "QuietTake$Track"
def TX10 : u_T := fun k => match k with
  | 0 => ("QuietTake$Track", "script", "LQuietTake$Script;", true)
  | 1 => ("QuietTake$Track", "ears", "LQuietTake$Ears;", true)
  | 2 => ("QuietTake$Track", "agreeing", "[I", true)
  | _ => ("QuietTake$Track", "size", "I", false)
def tyX10 : Nat → FieldType := fun k => match k with
  | 0 => .object "QuietTake$Script"
  | 1 => .object "QuietTake$Ears"
  | 2 => .array .int
  | _ => .int
theorem nmX10 : ∀ a, a < 4 → ∀ b, b < 4 → a ≠ b → (TX10 a).2.1 ≠ (TX10 b).2.1 := by decide +kernel
theorem tyX10_ok : ∀ k, k < 4 → parseFieldDescriptor (TX10 k).2.2.1 = some (tyX10 k) := by decide +kernel
abbrev cX10_init : ByteArray := prog_12_method_1_code
def yX10_init : MethodName := ⟨RX10, "<init>", "(LQuietTake$Script;LQuietTake$Ears;)V"⟩
abbrev cX10_clear : ByteArray := prog_12_method_2_code
def yX10_clear : MethodName := ⟨RX10, "clear", "()V"⟩
abbrev cX10_add : ByteArray := prog_12_method_3_code
def yX10_add : MethodName := ⟨RX10, "add", "(III)V"⟩
abbrev cX10_noiseOf : ByteArray := prog_12_method_4_code
def yX10_noiseOf : MethodName := ⟨RX10, "noiseOf", "(II)I"⟩
abbrev cX10_howMany : ByteArray := prog_12_method_5_code
def yX10_howMany : MethodName := ⟨RX10, "howMany", "(I)I"⟩
abbrev cX10_which : ByteArray := prog_12_method_6_code
def yX10_which : MethodName := ⟨RX10, "which", "(II)I"⟩
def RX11 : String := "QuietTake"
def TX11 : u_T := fun k => match k with
  | 0 => ("QuietTake", "tape", "LQuietTake$Tape;", true)
  | 1 => ("QuietTake", "tokens", "LQuietTake$Tokens;", true)
  | 2 => ("QuietTake", "reader", "LQuietTake$Reader;", true)
  | 3 => ("QuietTake", "script", "LQuietTake$Script;", true)
  | 4 => ("QuietTake", "state", "LQuietTake$State;", true)
  | 5 => ("QuietTake", "history", "LQuietTake$History;", true)
  | 6 => ("QuietTake", "slots", "[LQuietTake$State;", true)
  | 7 => ("QuietTake", "heldSlots", "I", false)
  | 8 => ("QuietTake", "ears", "LQuietTake$Ears;", true)
  | 9 => ("QuietTake", "survey", "LQuietTake$Survey;", true)
  | 10 => ("QuietTake", "plan", "LQuietTake$Plan;", true)
  | _ => ("QuietTake", "track", "LQuietTake$Track;", true)
def tyX11 : Nat → FieldType := fun k => match k with
  | 0 => .object "QuietTake$Tape"
  | 1 => .object "QuietTake$Tokens"
  | 2 => .object "QuietTake$Reader"
  | 3 => .object "QuietTake$Script"
  | 4 => .object "QuietTake$State"
  | 5 => .object "QuietTake$History"
  | 6 => .array (.object "QuietTake$State")
  | 7 => .int
  | 8 => .object "QuietTake$Ears"
  | 9 => .object "QuietTake$Survey"
  | 10 => .object "QuietTake$Plan"
  | _ => .object "QuietTake$Track"
theorem nmX11 : ∀ a, a < 12 → ∀ b, b < 12 → a ≠ b → (TX11 a).2.1 ≠ (TX11 b).2.1 := by decide +kernel
theorem tyX11_ok : ∀ k, k < 12 → parseFieldDescriptor (TX11 k).2.2.1 = some (tyX11 k) := by decide +kernel
abbrev cX11_init : ByteArray := prog_1_method_1_code
def yX11_init : MethodName := ⟨RX11, "<init>", "()V"⟩
abbrev cX11_feed : ByteArray := prog_1_method_2_code
def yX11_feed : MethodName := ⟨RX11, "feed", "(IIIII)I"⟩
abbrev cX11_back : ByteArray := prog_1_method_3_code
def yX11_back : MethodName := ⟨RX11, "back", "(I)I"⟩
abbrev cX11_read : ByteArray := prog_1_method_4_code
def yX11_read : MethodName := ⟨RX11, "read", "()I"⟩
abbrev cX11_place : ByteArray := prog_1_method_5_code
def yX11_place : MethodName := ⟨RX11, "place", "()I"⟩
abbrev cX11_noise : ByteArray := prog_1_method_6_code
def yX11_noise : MethodName := ⟨RX11, "noise", "(II)I"⟩
abbrev cX11_shot : ByteArray := prog_1_method_7_code
def yX11_shot : MethodName := ⟨RX11, "shot", "(II)I"⟩
abbrev cX11_heard : ByteArray := prog_1_method_8_code
def yX11_heard : MethodName := ⟨RX11, "heard", "(III)I"⟩
abbrev cX11_loud : ByteArray := prog_1_method_9_code
def yX11_loud : MethodName := ⟨RX11, "loud", "(II)I"⟩
abbrev cX11_bears : ByteArray := prog_1_method_10_code
def yX11_bears : MethodName := ⟨RX11, "bears", "(II)I"⟩
abbrev cX11_take : ByteArray := prog_1_method_11_code
def yX11_take : MethodName := ⟨RX11, "take", "(I)I"⟩
abbrev cX11_waits : ByteArray := prog_1_method_12_code
def yX11_waits : MethodName := ⟨RX11, "waits", "(I)I"⟩
abbrev cX11_rests : ByteArray := prog_1_method_13_code
def yX11_rests : MethodName := ⟨RX11, "rests", "(I)I"⟩
abbrev cX11_moves : ByteArray := prog_1_method_14_code
def yX11_moves : MethodName := ⟨RX11, "moves", "(I)I"⟩
abbrev cX11_pay : ByteArray := prog_1_method_15_code
def yX11_pay : MethodName := ⟨RX11, "pay", "(II)I"⟩
abbrev cX11_undo : ByteArray := prog_1_method_16_code
def yX11_undo : MethodName := ⟨RX11, "undo", "()Z"⟩
abbrev cX11_hole : ByteArray := prog_1_method_17_code
def yX11_hole : MethodName := ⟨RX11, "hole", "(III)I"⟩
abbrev cX11_holes : ByteArray := prog_1_method_18_code
def yX11_holes : MethodName := ⟨RX11, "holes", "(III)I"⟩
abbrev cX11_softest : ByteArray := prog_1_method_19_code
def yX11_softest : MethodName := ⟨RX11, "softest", "(III)I"⟩
abbrev cX11_next : ByteArray := prog_1_method_20_code
def yX11_next : MethodName := ⟨RX11, "next", "(I)I"⟩
abbrev cX11_loudest : ByteArray := prog_1_method_21_code
def yX11_loudest : MethodName := ⟨RX11, "loudest", "(II)I"⟩
abbrev cX11_peak : ByteArray := prog_1_method_22_code
def yX11_peak : MethodName := ⟨RX11, "peak", "(II)I"⟩
abbrev cX11_calmest : ByteArray := prog_1_method_23_code
def yX11_calmest : MethodName := ⟨RX11, "calmest", "(I)I"⟩
abbrev cX11_ours : ByteArray := prog_1_method_24_code
def yX11_ours : MethodName := ⟨RX11, "ours", "(I)I"⟩
abbrev cX11_best : ByteArray := prog_1_method_25_code
def yX11_best : MethodName := ⟨RX11, "best", "(II)I"⟩
abbrev cX11_order : ByteArray := prog_1_method_26_code
def yX11_order : MethodName := ⟨RX11, "order", "(I)I"⟩
abbrev cX11_bribe : ByteArray := prog_1_method_27_code
def yX11_bribe : MethodName := ⟨RX11, "bribe", "(II)I"⟩
abbrev cX11_cellar : ByteArray := prog_1_method_28_code
def yX11_cellar : MethodName := ⟨RX11, "cellar", "(II)I"⟩
abbrev cX11_cheapest : ByteArray := prog_1_method_29_code
def yX11_cheapest : MethodName := ⟨RX11, "cheapest", "(II)I"⟩
abbrev cX11_breakOff : ByteArray := prog_1_method_30_code
def yX11_breakOff : MethodName := ⟨RX11, "breakOff", "(II)I"⟩
abbrev cX11_join : ByteArray := prog_1_method_31_code
def yX11_join : MethodName := ⟨RX11, "join", "(I)I"⟩
abbrev cX11_odds : ByteArray := prog_1_method_32_code
def yX11_odds : MethodName := ⟨RX11, "odds", "(III)I"⟩
abbrev cX11_tell : ByteArray := prog_1_method_33_code
def yX11_tell : MethodName := ⟨RX11, "tell", "(III)I"⟩
abbrev cX11_forget : ByteArray := prog_1_method_34_code
def yX11_forget : MethodName := ⟨RX11, "forget", "()I"⟩
abbrev cX11_when : ByteArray := prog_1_method_35_code
def yX11_when : MethodName := ⟨RX11, "when", "(II)I"⟩
abbrev cX11_hold : ByteArray := prog_1_method_36_code
def yX11_hold : MethodName := ⟨RX11, "hold", "(I)Z"⟩
abbrev cX11_restore : ByteArray := prog_1_method_37_code
def yX11_restore : MethodName := ⟨RX11, "restore", "(I)Z"⟩
abbrev cX11_count : ByteArray := prog_1_method_38_code
def yX11_count : MethodName := ⟨RX11, "count", "(I)I"⟩
abbrev cX11_beginAnew : ByteArray := prog_1_method_39_code
def yX11_beginAnew : MethodName := ⟨RX11, "beginAnew", "()V"⟩
abbrev cX11_beforeChange : ByteArray := prog_1_method_40_code
def yX11_beforeChange : MethodName := ⟨RX11, "beforeChange", "()V"⟩
abbrev cX11_isNoise : ByteArray := prog_1_method_41_code
def yX11_isNoise : MethodName := ⟨RX11, "isNoise", "(I)Z"⟩
abbrev cX11_isPlace : ByteArray := prog_1_method_42_code
def yX11_isPlace : MethodName := ⟨RX11, "isPlace", "(I)Z"⟩
abbrev cX11_isShot : ByteArray := prog_1_method_43_code
def yX11_isShot : MethodName := ⟨RX11, "isShot", "(I)Z"⟩
abbrev cX11_isHole : ByteArray := prog_1_method_44_code
def yX11_isHole : MethodName := ⟨RX11, "isHole", "(III)Z"⟩
abbrev cX11_ageNow : ByteArray := prog_1_method_45_code
def yX11_ageNow : MethodName := ⟨RX11, "ageNow", "(I)I"⟩
abbrev cX11_doneBits : ByteArray := prog_1_method_46_code
def yX11_doneBits : MethodName := ⟨RX11, "doneBits", "()I"⟩
abbrev cX11_onBits : ByteArray := prog_1_method_47_code
def yX11_onBits : MethodName := ⟨RX11, "onBits", "()I"⟩
abbrev cX11_within : ByteArray := prog_1_method_48_code
def yX11_within : MethodName := ⟨RX11, "within", "(III)Z"⟩
def RX12 : String := "QuietTakeModel"
def TX12 : u_T := fun k => match k with
  | 0 => ("QuietTakeModel", "thrown", "I", false)
  | 1 => ("QuietTakeModel", "tape", "[B", true)
  | 2 => ("QuietTakeModel", "taped", "I", false)
  | 3 => ("QuietTakeModel", "text", "[B", true)
  | 4 => ("QuietTakeModel", "size", "I", false)
  | 5 => ("QuietTakeModel", "tKind", "[I", true)
  | 6 => ("QuietTakeModel", "tPlace", "[I", true)
  | 7 => ("QuietTakeModel", "tValue", "[I", true)
  | 8 => ("QuietTakeModel", "tName", "[J", true)
  | 9 => ("QuietTakeModel", "keys", "[J", true)
  | 10 => ("QuietTakeModel", "tokens", "I", false)
  | 11 => ("QuietTakeModel", "t", "I", false)
  | 12 => ("QuietTakeModel", "open", "I", false)
  | 13 => ("QuietTakeModel", "fault", "I", false)
  | 14 => ("QuietTakeModel", "faultPlace", "I", false)
  | 15 => ("QuietTakeModel", "worst", "I", false)
  | 16 => ("QuietTakeModel", "worstPlace", "I", false)
  | 17 => ("QuietTakeModel", "place", "I", false)
  | 18 => ("QuietTakeModel", "live", "I", false)
  | 19 => ("QuietTakeModel", "side", "I", false)
  | 20 => ("QuietTakeModel", "names", "I", false)
  | 21 => ("QuietTakeModel", "nameOf", "[J", true)
  | 22 => ("QuietTakeModel", "noises", "[I", true)
  | 23 => ("QuietTakeModel", "isClock", "[Z", true)
  | 24 => ("QuietTakeModel", "firstOf", "[I", true)
  | 25 => ("QuietTakeModel", "everyOf", "[I", true)
  | 26 => ("QuietTakeModel", "lastsOf", "[I", true)
  | 27 => ("QuietTakeModel", "loudOf", "[I", true)
  | 28 => ("QuietTakeModel", "priceOf", "[I", true)
  | 29 => ("QuietTakeModel", "places", "[I", true)
  | 30 => ("QuietTakeModel", "farOf", "[I", true)
  | 31 => ("QuietTakeModel", "shots", "[I", true)
  | 32 => ("QuietTakeModel", "longOf", "[I", true)
  | 33 => ("QuietTakeModel", "limitOf", "[I", true)
  | 34 => ("QuietTakeModel", "move", "[I", true)
  | 35 => ("QuietTakeModel", "coinsTold", "[I", true)
  | 36 => ("QuietTakeModel", "seed", "[I", true)
  | 37 => ("QuietTakeModel", "lawFirst", "[I", true)
  | 38 => ("QuietTakeModel", "lawLast", "[I", true)
  | 39 => ("QuietTakeModel", "branches", "I", false)
  | 40 => ("QuietTakeModel", "hasTest", "[Z", true)
  | 41 => ("QuietTakeModel", "testFrom", "[I", true)
  | 42 => ("QuietTakeModel", "testMid", "[I", true)
  | 43 => ("QuietTakeModel", "testTo", "[I", true)
  | 44 => ("QuietTakeModel", "termTo", "[I", true)
  | 45 => ("QuietTakeModel", "codes", "I", false)
  | 46 => ("QuietTakeModel", "code", "[I", true)
  | 47 => ("QuietTakeModel", "codeInt", "[I", true)
  | 48 => ("QuietTakeModel", "waits", "[I", true)
  | 49 => ("QuietTakeModel", "waiting", "I", false)
  | 50 => ("QuietTakeModel", "variables", "[I", true)
  | 51 => ("QuietTakeModel", "pile", "[I", true)
  | 52 => ("QuietTakeModel", "isBroken", "Z", false)
  | 53 => ("QuietTakeModel", "now", "[I", true)
  | 54 => ("QuietTakeModel", "row", "[I", true)
  | 55 => ("QuietTakeModel", "lots", "I", false)
  | 56 => ("QuietTakeModel", "loudBy", "[I", true)
  | 57 => ("QuietTakeModel", "undos", "I", false)
  | 58 => ("QuietTakeModel", "history", "[I", true)
  | 59 => ("QuietTakeModel", "due", "[I", true)
  | 60 => ("QuietTakeModel", "dues", "I", false)
  | 61 => ("QuietTakeModel", "beginBy", "[I", true)
  | 62 => ("QuietTakeModel", "orderEnd", "I", false)
  | 63 => ("QuietTakeModel", "orderWay", "I", false)
  | 64 => ("QuietTakeModel", "inTime", "[Z", true)
  | 65 => ("QuietTakeModel", "told", "I", false)
  | 66 => ("QuietTakeModel", "toldPlace", "[I", true)
  | 67 => ("QuietTakeModel", "toldSecond", "[I", true)
  | 68 => ("QuietTakeModel", "toldNoise", "[I", true)
  | 69 => ("QuietTakeModel", "isHeld", "[Z", true)
  | _ => ("QuietTakeModel", "heldRows", "[I", true)
def tyX12 : Nat → FieldType := fun k => match k with
  | 0 => .int
  | 1 => .array .byte
  | 2 => .int
  | 3 => .array .byte
  | 4 => .int
  | 5 => .array .int
  | 6 => .array .int
  | 7 => .array .int
  | 8 => .array .long
  | 9 => .array .long
  | 10 => .int
  | 11 => .int
  | 12 => .int
  | 13 => .int
  | 14 => .int
  | 15 => .int
  | 16 => .int
  | 17 => .int
  | 18 => .int
  | 19 => .int
  | 20 => .int
  | 21 => .array .long
  | 22 => .array .int
  | 23 => .array .boolean
  | 24 => .array .int
  | 25 => .array .int
  | 26 => .array .int
  | 27 => .array .int
  | 28 => .array .int
  | 29 => .array .int
  | 30 => .array .int
  | 31 => .array .int
  | 32 => .array .int
  | 33 => .array .int
  | 34 => .array .int
  | 35 => .array .int
  | 36 => .array .int
  | 37 => .array .int
  | 38 => .array .int
  | 39 => .int
  | 40 => .array .boolean
  | 41 => .array .int
  | 42 => .array .int
  | 43 => .array .int
  | 44 => .array .int
  | 45 => .int
  | 46 => .array .int
  | 47 => .array .int
  | 48 => .array .int
  | 49 => .int
  | 50 => .array .int
  | 51 => .array .int
  | 52 => .boolean
  | 53 => .array .int
  | 54 => .array .int
  | 55 => .int
  | 56 => .array .int
  | 57 => .int
  | 58 => .array .int
  | 59 => .array .int
  | 60 => .int
  | 61 => .array .int
  | 62 => .int
  | 63 => .int
  | 64 => .array .boolean
  | 65 => .int
  | 66 => .array .int
  | 67 => .array .int
  | 68 => .array .int
  | 69 => .array .boolean
  | _ => .array .int
theorem nmX12 : ∀ a, a < 71 → ∀ b, b < 71 → a ≠ b → (TX12 a).2.1 ≠ (TX12 b).2.1 := by decide +kernel
theorem tyX12_ok : ∀ k, k < 71 → parseFieldDescriptor (TX12 k).2.2.1 = some (tyX12 k) := by decide +kernel
abbrev cX12_init : ByteArray := prog_14_method_2_code
def yX12_init : MethodName := ⟨RX12, "<init>", "()V"⟩
abbrev cX12_feed : ByteArray := prog_14_method_3_code
def yX12_feed : MethodName := ⟨RX12, "feed", "(IIIII)I"⟩
abbrev cX12_put : ByteArray := prog_14_method_4_code
def yX12_put : MethodName := ⟨RX12, "put", "(I)V"⟩
abbrev cX12_back : ByteArray := prog_14_method_5_code
def yX12_back : MethodName := ⟨RX12, "back", "(I)I"⟩
abbrev cX12_byteAt : ByteArray := prog_14_method_6_code
def yX12_byteAt : MethodName := ⟨RX12, "byteAt", "(I)I"⟩
abbrev cX12_isDigit : ByteArray := prog_14_method_7_code
def yX12_isDigit : MethodName := ⟨RX12, "isDigit", "(I)Z"⟩
abbrev cX12_isLetter : ByteArray := prog_14_method_8_code
def yX12_isLetter : MethodName := ⟨RX12, "isLetter", "(I)Z"⟩
abbrev cX12_appends : ByteArray := prog_14_method_9_code
def yX12_appends : MethodName := ⟨RX12, "appends", "(JI)J"⟩
abbrev cX12_word : ByteArray := prog_14_method_10_code
def yX12_word : MethodName := ⟨RX12, "word", "(IIIIIII)J"⟩
abbrev cX12_token : ByteArray := prog_14_method_11_code
def yX12_token : MethodName := ⟨RX12, "token", "(IIIJ)V"⟩
abbrev cX12_cut : ByteArray := prog_14_method_12_code
def yX12_cut : MethodName := ⟨RX12, "cut", "()V"⟩
abbrev cX12_sign : ByteArray := prog_14_method_13_code
def yX12_sign : MethodName := ⟨RX12, "sign", "(III)I"⟩
abbrev cX12_is : ByteArray := prog_14_method_14_code
def yX12_is : MethodName := ⟨RX12, "is", "(I)Z"⟩
abbrev cX12_fail : ByteArray := prog_14_method_15_code
def yX12_fail : MethodName := ⟨RX12, "fail", "(I)V"⟩
abbrev cX12_wrong : ByteArray := prog_14_method_16_code
def yX12_wrong : MethodName := ⟨RX12, "wrong", "(II)V"⟩
abbrev cX12_goesOn : ByteArray := prog_14_method_17_code
def yX12_goesOn : MethodName := ⟨RX12, "goesOn", "()V"⟩
abbrev cX12_must : ByteArray := prog_14_method_18_code
def yX12_must : MethodName := ⟨RX12, "must", "(I)V"⟩
abbrev cX12_plain : ByteArray := prog_14_method_19_code
def yX12_plain : MethodName := ⟨RX12, "plain", "(I)V"⟩
abbrev cX12_read : ByteArray := prog_14_method_20_code
def yX12_read : MethodName := ⟨RX12, "read", "()I"⟩
abbrev cX12_place : ByteArray := prog_14_method_21_code
def yX12_place : MethodName := ⟨RX12, "place", "()I"⟩
abbrev cX12_roomFor : ByteArray := prog_14_method_22_code
def yX12_roomFor : MethodName := ⟨RX12, "roomFor", "(II)V"⟩
abbrev cX12_tellOne : ByteArray := prog_14_method_23_code
def yX12_tellOne : MethodName := ⟨RX12, "tellOne", "()V"⟩
abbrev cX12_named : ByteArray := prog_14_method_24_code
def yX12_named : MethodName := ⟨RX12, "named", "()I"⟩
abbrev cX12_ends : ByteArray := prog_14_method_25_code
def yX12_ends : MethodName := ⟨RX12, "ends", "(I)V"⟩
abbrev cX12_bounded : ByteArray := prog_14_method_26_code
def yX12_bounded : MethodName := ⟨RX12, "bounded", "(II)I"⟩
abbrev cX12_tellNoise : ByteArray := prog_14_method_27_code
def yX12_tellNoise : MethodName := ⟨RX12, "tellNoise", "(Z)V"⟩
abbrev cX12_tellShot : ByteArray := prog_14_method_28_code
def yX12_tellShot : MethodName := ⟨RX12, "tellShot", "()V"⟩
abbrev cX12_tellLaw : ByteArray := prog_14_method_29_code
def yX12_tellLaw : MethodName := ⟨RX12, "tellLaw", "(I)V"⟩
abbrev cX12_term : ByteArray := prog_14_method_30_code
def yX12_term : MethodName := ⟨RX12, "term", "()V"⟩
abbrev cX12_emit : ByteArray := prog_14_method_31_code
def yX12_emit : MethodName := ⟨RX12, "emit", "(II)V"⟩
abbrev cX12_comesOut : ByteArray := prog_14_method_32_code
def yX12_comesOut : MethodName := ⟨RX12, "comesOut", "(Z)V"⟩
abbrev cX12_expression : ByteArray := prog_14_method_33_code
def yX12_expression : MethodName := ⟨RX12, "expression", "()V"⟩
abbrev cX12_unit : ByteArray := prog_14_method_34_code
def yX12_unit : MethodName := ⟨RX12, "unit", "()V"⟩
abbrev cX12_termOf : ByteArray := prog_14_method_35_code
def yX12_termOf : MethodName := ⟨RX12, "termOf", "(II)I"⟩
abbrev cX12_in : ByteArray := prog_14_method_36_code
def yX12_in : MethodName := ⟨RX12, "in", "(III)Z"⟩
abbrev cX12_isNoise : ByteArray := prog_14_method_37_code
def yX12_isNoise : MethodName := ⟨RX12, "isNoise", "(I)Z"⟩
abbrev cX12_isPlace : ByteArray := prog_14_method_38_code
def yX12_isPlace : MethodName := ⟨RX12, "isPlace", "(I)Z"⟩
abbrev cX12_isShot : ByteArray := prog_14_method_39_code
def yX12_isShot : MethodName := ⟨RX12, "isShot", "(I)Z"⟩
abbrev cX12_longFor : ByteArray := prog_14_method_40_code
def yX12_longFor : MethodName := ⟨RX12, "longFor", "(I)I"⟩
abbrev cX12_begins : ByteArray := prog_14_method_41_code
def yX12_begins : MethodName := ⟨RX12, "begins", "()V"⟩
abbrev cX12_keepsRow : ByteArray := prog_14_method_42_code
def yX12_keepsRow : MethodName := ⟨RX12, "keepsRow", "()V"⟩
abbrev cX12_copies : ByteArray := prog_14_method_43_code
def yX12_copies : MethodName := ⟨RX12, "copies", "()V"⟩
abbrev cX12_mixed : ByteArray := prog_14_method_44_code
def yX12_mixed : MethodName := ⟨RX12, "mixed", "(II)I"⟩
abbrev cX12_lotOf : ByteArray := prog_14_method_45_code
def yX12_lotOf : MethodName := ⟨RX12, "lotOf", "(I)I"⟩
abbrev cX12_looks : ByteArray := prog_14_method_46_code
def yX12_looks : MethodName := ⟨RX12, "looks", "(I)V"⟩
abbrev cX12_asks : ByteArray := prog_14_method_47_code
def yX12_asks : MethodName := ⟨RX12, "asks", "(III)I"⟩
abbrev cX12_lastBegun : ByteArray := prog_14_method_48_code
def yX12_lastBegun : MethodName := ⟨RX12, "lastBegun", "(II)I"⟩
abbrev cX12_ageOf : ByteArray := prog_14_method_49_code
def yX12_ageOf : MethodName := ⟨RX12, "ageOf", "(II)I"⟩
abbrev cX12_ageNow : ByteArray := prog_14_method_50_code
def yX12_ageNow : MethodName := ⟨RX12, "ageNow", "(II)I"⟩
abbrev cX12_heardBy : ByteArray := prog_14_method_51_code
def yX12_heardBy : MethodName := ⟨RX12, "heardBy", "(IIII)I"⟩
abbrev cX12_heardNow : ByteArray := prog_14_method_52_code
def yX12_heardNow : MethodName := ⟨RX12, "heardNow", "(III)I"⟩
abbrev cX12_mostHeard : ByteArray := prog_14_method_53_code
def yX12_mostHeard : MethodName := ⟨RX12, "mostHeard", "(II)I"⟩
abbrev cX12_rustling : ByteArray := prog_14_method_54_code
def yX12_rustling : MethodName := ⟨RX12, "rustling", "(I)I"⟩
abbrev cX12_loudIn : ByteArray := prog_14_method_55_code
def yX12_loudIn : MethodName := ⟨RX12, "loudIn", "(II)I"⟩
abbrev cX12_bearsIn : ByteArray := prog_14_method_56_code
def yX12_bearsIn : MethodName := ⟨RX12, "bearsIn", "(III)I"⟩
abbrev cX12_fillsLoud : ByteArray := prog_14_method_57_code
def yX12_fillsLoud : MethodName := ⟨RX12, "fillsLoud", "(II)V"⟩
abbrev cX12_clearFrom : ByteArray := prog_14_method_58_code
def yX12_clearFrom : MethodName := ⟨RX12, "clearFrom", "(II)I"⟩
abbrev cX12_isWhole : ByteArray := prog_14_method_59_code
def yX12_isWhole : MethodName := ⟨RX12, "isWhole", "(II)Z"⟩
abbrev cX12_isGood : ByteArray := prog_14_method_60_code
def yX12_isGood : MethodName := ⟨RX12, "isGood", "(II)Z"⟩
abbrev cX12_isOn : ByteArray := prog_14_method_61_code
def yX12_isOn : MethodName := ⟨RX12, "isOn", "(I)I"⟩
abbrev cX12_noise : ByteArray := prog_14_method_62_code
def yX12_noise : MethodName := ⟨RX12, "noise", "(II)I"⟩
abbrev cX12_shot : ByteArray := prog_14_method_63_code
def yX12_shot : MethodName := ⟨RX12, "shot", "(II)I"⟩
abbrev cX12_heard : ByteArray := prog_14_method_64_code
def yX12_heard : MethodName := ⟨RX12, "heard", "(III)I"⟩
abbrev cX12_loud : ByteArray := prog_14_method_65_code
def yX12_loud : MethodName := ⟨RX12, "loud", "(II)I"⟩
abbrev cX12_bears : ByteArray := prog_14_method_66_code
def yX12_bears : MethodName := ⟨RX12, "bears", "(II)I"⟩
abbrev cX12_keeps : ByteArray := prog_14_method_67_code
def yX12_keeps : MethodName := ⟨RX12, "keeps", "()V"⟩
abbrev cX12_stands : ByteArray := prog_14_method_68_code
def yX12_stands : MethodName := ⟨RX12, "stands", "(I)V"⟩
abbrev cX12_take : ByteArray := prog_14_method_69_code
def yX12_take : MethodName := ⟨RX12, "take", "(I)I"⟩
abbrev cX12_waits : ByteArray := prog_14_method_70_code
def yX12_waits : MethodName := ⟨RX12, "waits", "(I)I"⟩
abbrev cX12_rests : ByteArray := prog_14_method_71_code
def yX12_rests : MethodName := ⟨RX12, "rests", "(I)I"⟩
abbrev cX12_moves : ByteArray := prog_14_method_72_code
def yX12_moves : MethodName := ⟨RX12, "moves", "(I)I"⟩
abbrev cX12_pays : ByteArray := prog_14_method_73_code
def yX12_pays : MethodName := ⟨RX12, "pays", "(II)V"⟩
abbrev cX12_pay : ByteArray := prog_14_method_74_code
def yX12_pay : MethodName := ⟨RX12, "pay", "(II)I"⟩
abbrev cX12_undo : ByteArray := prog_14_method_75_code
def yX12_undo : MethodName := ⟨RX12, "undo", "()Z"⟩
abbrev cX12_isHole : ByteArray := prog_14_method_76_code
def yX12_isHole : MethodName := ⟨RX12, "isHole", "(III)Z"⟩
abbrev cX12_isAsked : ByteArray := prog_14_method_77_code
def yX12_isAsked : MethodName := ⟨RX12, "isAsked", "(II)Z"⟩
abbrev cX12_hole : ByteArray := prog_14_method_78_code
def yX12_hole : MethodName := ⟨RX12, "hole", "(III)I"⟩
abbrev cX12_holes : ByteArray := prog_14_method_79_code
def yX12_holes : MethodName := ⟨RX12, "holes", "(III)I"⟩
abbrev cX12_mostIn : ByteArray := prog_14_method_80_code
def yX12_mostIn : MethodName := ⟨RX12, "mostIn", "(II)I"⟩
abbrev cX12_softest : ByteArray := prog_14_method_81_code
def yX12_softest : MethodName := ⟨RX12, "softest", "(III)I"⟩
abbrev cX12_next : ByteArray := prog_14_method_82_code
def yX12_next : MethodName := ⟨RX12, "next", "(I)I"⟩
abbrev cX12_isLoudest : ByteArray := prog_14_method_83_code
def yX12_isLoudest : MethodName := ⟨RX12, "isLoudest", "(III)Z"⟩
abbrev cX12_loudest : ByteArray := prog_14_method_84_code
def yX12_loudest : MethodName := ⟨RX12, "loudest", "(II)I"⟩
abbrev cX12_peak : ByteArray := prog_14_method_85_code
def yX12_peak : MethodName := ⟨RX12, "peak", "(II)I"⟩
abbrev cX12_calmest : ByteArray := prog_14_method_86_code
def yX12_calmest : MethodName := ⟨RX12, "calmest", "(I)I"⟩
abbrev cX12_ours : ByteArray := prog_14_method_87_code
def yX12_ours : MethodName := ⟨RX12, "ours", "(I)I"⟩
abbrev cX12_soonest : ByteArray := prog_14_method_88_code
def yX12_soonest : MethodName := ⟨RX12, "soonest", "(II)I"⟩
abbrev cX12_best : ByteArray := prog_14_method_89_code
def yX12_best : MethodName := ⟨RX12, "best", "(II)I"⟩
abbrev cX12_findsDue : ByteArray := prog_14_method_90_code
def yX12_findsDue : MethodName := ⟨RX12, "findsDue", "()V"⟩
abbrev cX12_fillsDue : ByteArray := prog_14_method_91_code
def yX12_fillsDue : MethodName := ⟨RX12, "fillsDue", "()V"⟩
abbrev cX12_fives : ByteArray := prog_14_method_92_code
def yX12_fives : MethodName := ⟨RX12, "fives", "(I)I"⟩
abbrev cX12_endBy : ByteArray := prog_14_method_93_code
def yX12_endBy : MethodName := ⟨RX12, "endBy", "(II)I"⟩
abbrev cX12_fillsOrder : ByteArray := prog_14_method_94_code
def yX12_fillsOrder : MethodName := ⟨RX12, "fillsOrder", "()V"⟩
abbrev cX12_order : ByteArray := prog_14_method_95_code
def yX12_order : MethodName := ⟨RX12, "order", "(I)I"⟩
abbrev cX12_usedBy : ByteArray := prog_14_method_96_code
def yX12_usedBy : MethodName := ⟨RX12, "usedBy", "(II)I"⟩
abbrev cX12_bits : ByteArray := prog_14_method_97_code
def yX12_bits : MethodName := ⟨RX12, "bits", "(I)I"⟩
abbrev cX12_shotsOf : ByteArray := prog_14_method_98_code
def yX12_shotsOf : MethodName := ⟨RX12, "shotsOf", "(I)I"⟩
abbrev cX12_cellar : ByteArray := prog_14_method_99_code
def yX12_cellar : MethodName := ⟨RX12, "cellar", "(II)I"⟩
abbrev cX12_bribe : ByteArray := prog_14_method_100_code
def yX12_bribe : MethodName := ⟨RX12, "bribe", "(II)I"⟩
abbrev cX12_cheapest : ByteArray := prog_14_method_101_code
def yX12_cheapest : MethodName := ⟨RX12, "cheapest", "(II)I"⟩
abbrev cX12_breakOff : ByteArray := prog_14_method_102_code
def yX12_breakOff : MethodName := ⟨RX12, "breakOff", "(II)I"⟩
abbrev cX12_join : ByteArray := prog_14_method_103_code
def yX12_join : MethodName := ⟨RX12, "join", "(I)I"⟩
abbrev cX12_odds : ByteArray := prog_14_method_104_code
def yX12_odds : MethodName := ⟨RX12, "odds", "(III)I"⟩
abbrev cX12_tell : ByteArray := prog_14_method_105_code
def yX12_tell : MethodName := ⟨RX12, "tell", "(III)I"⟩
abbrev cX12_forget : ByteArray := prog_14_method_106_code
def yX12_forget : MethodName := ⟨RX12, "forget", "()I"⟩
abbrev cX12_isSo : ByteArray := prog_14_method_107_code
def yX12_isSo : MethodName := ⟨RX12, "isSo", "(II)Z"⟩
abbrev cX12_when : ByteArray := prog_14_method_108_code
def yX12_when : MethodName := ⟨RX12, "when", "(II)I"⟩
abbrev cX12_hold : ByteArray := prog_14_method_109_code
def yX12_hold : MethodName := ⟨RX12, "hold", "(I)Z"⟩
abbrev cX12_restore : ByteArray := prog_14_method_110_code
def yX12_restore : MethodName := ⟨RX12, "restore", "(I)Z"⟩
abbrev cX12_count : ByteArray := prog_14_method_111_code
def yX12_count : MethodName := ⟨RX12, "count", "(I)I"⟩
def RJ11 : String := "java/lang/Character"
abbrev cJ11_isValidCodePoint_9a6ad : ByteArray := prog_15_method_11_code
def yJ11_isValidCodePoint_9a6ad : MethodName := ⟨RJ11, "isValidCodePoint", "(I)Z"⟩
abbrev cJ11_highSurrogate_5068e : ByteArray := prog_15_method_28_code
def yJ11_highSurrogate_5068e : MethodName := ⟨RJ11, "highSurrogate", "(I)C"⟩
abbrev cJ11_lowSurrogate_5068e : ByteArray := prog_15_method_29_code
def yJ11_lowSurrogate_5068e : MethodName := ⟨RJ11, "lowSurrogate", "(I)C"⟩
def RJ6 : String := "java/lang/Integer"
abbrev cJ6_bitCount_0f7a4 : ByteArray := prog_16_method_49_code
def yJ6_bitCount_0f7a4 : MethodName := ⟨RJ6, "bitCount", "(I)I"⟩
def RJ9 : String := "java/lang/Math"
abbrev cJ9_max_7cf53 : ByteArray := prog_17_method_65_code
def yJ9_max_7cf53 : MethodName := ⟨RJ9, "max", "(II)I"⟩
abbrev cJ9_min_7cf53 : ByteArray := prog_17_method_69_code
def yJ9_min_7cf53 : MethodName := ⟨RJ9, "min", "(II)I"⟩
def RJ0 : String := "java/lang/String"
abbrev cJ0_length_8abf5 : ByteArray := prog_18_method_54_code
def yJ0_length_8abf5 : MethodName := ⟨RJ0, "length", "()I"⟩
abbrev cJ0_charAt_5068e : ByteArray := prog_18_method_56_code
def yJ0_charAt_5068e : MethodName := ⟨RJ0, "charAt", "(I)C"⟩
abbrev cJ0_indexOf_0f7a4 : ByteArray := prog_18_method_79_code
def yJ0_indexOf_0f7a4 : MethodName := ⟨RJ0, "indexOf", "(I)I"⟩
abbrev cJ0_indexOf_7cf53 : ByteArray := prog_18_method_80_code
def yJ0_indexOf_7cf53 : MethodName := ⟨RJ0, "indexOf", "(II)I"⟩
abbrev cJ0_coder_7d493 : ByteArray := prog_18_method_152_code
def yJ0_coder_7d493 : MethodName := ⟨RJ0, "coder", "()B"⟩
abbrev cJ0_isLatin1_aae02 : ByteArray := prog_18_method_154_code
def yJ0_isLatin1_aae02 : MethodName := ⟨RJ0, "isLatin1", "()Z"⟩
abbrev cJ0_checkIndex_df160 : ByteArray := prog_18_method_155_code
def yJ0_checkIndex_df160 : MethodName := ⟨RJ0, "checkIndex", "(II)V"⟩
abbrev cJ0_checkBoundsBeginEnd_23922 : ByteArray := prog_18_method_158_code
def yJ0_checkBoundsBeginEnd_23922 : MethodName := ⟨RJ0, "checkBoundsBeginEnd", "(III)V"⟩
def RJ1 : String := "java/lang/StringLatin1"
abbrev cJ1_charAt_3b067 : ByteArray := prog_19_method_2_code
def yJ1_charAt_3b067 : MethodName := ⟨RJ1, "charAt", "([BI)C"⟩
abbrev cJ1_canEncode_9a6ad : ByteArray := prog_19_method_4_code
def yJ1_canEncode_9a6ad : MethodName := ⟨RJ1, "canEncode", "(I)Z"⟩
abbrev cJ1_indexOf_4cfef : ByteArray := prog_19_method_22_code
def yJ1_indexOf_4cfef : MethodName := ⟨RJ1, "indexOf", "([BIII)I"⟩
abbrev cJ1_indexOfChar_4cfef : ByteArray := prog_19_method_23_code
def yJ1_indexOfChar_4cfef : MethodName := ⟨RJ1, "indexOfChar", "([BIII)I"⟩
def RJ2 : String := "java/lang/StringUTF16"
abbrev cJ2_getChar_3b067 : ByteArray := prog_20_method_5_code
def yJ2_getChar_3b067 : MethodName := ⟨RJ2, "getChar", "([BI)C"⟩
abbrev cJ2_length_9d52b : ByteArray := prog_20_method_6_code
def yJ2_length_9d52b : MethodName := ⟨RJ2, "length", "([B)I"⟩
abbrev cJ2_indexOf_4cfef : ByteArray := prog_20_method_40_code
def yJ2_indexOf_4cfef : MethodName := ⟨RJ2, "indexOf", "([BIII)I"⟩
abbrev cJ2_indexOfChar_4cfef : ByteArray := prog_20_method_47_code
def yJ2_indexOfChar_4cfef : MethodName := ⟨RJ2, "indexOfChar", "([BIII)I"⟩
abbrev cJ2_indexOfCharUnsafe_4cfef : ByteArray := prog_20_method_48_code
def yJ2_indexOfCharUnsafe_4cfef : MethodName := ⟨RJ2, "indexOfCharUnsafe", "([BIII)I"⟩
abbrev cJ2_indexOfSupplementary_4cfef : ByteArray := prog_20_method_49_code
def yJ2_indexOfSupplementary_4cfef : MethodName := ⟨RJ2, "indexOfSupplementary", "([BIII)I"⟩
abbrev cJ2_charAt_3b067 : ByteArray := prog_20_method_83_code
def yJ2_charAt_3b067 : MethodName := ⟨RJ2, "charAt", "([BI)C"⟩
abbrev cJ2_checkIndex_2214a : ByteArray := prog_20_method_91_code
def yJ2_checkIndex_2214a : MethodName := ⟨RJ2, "checkIndex", "(I[B)V"⟩
abbrev cJ2_checkBoundsBeginEnd_d044e : ByteArray := prog_20_method_93_code
def yJ2_checkBoundsBeginEnd_d044e : MethodName := ⟨RJ2, "checkBoundsBeginEnd", "(II[B)V"⟩
def RJ10 : String := "java/lang/System"
def RJ7 : String := "java/util/Arrays"
abbrev cJ7_fill_53178 : ByteArray := prog_22_method_103_code
def yJ7_fill_53178 : MethodName := ⟨RJ7, "fill", "([II)V"⟩
def RJ3 : String := "jdk/internal/util/Preconditions"
abbrev cJ3_checkIndex_8e157 : ByteArray := prog_23_method_11_code
def yJ3_checkIndex_8e157 : MethodName := ⟨RJ3, "checkIndex", "(IILjava/util/function/BiFunction;)I"⟩
abbrev cJ3_checkFromToIndex_8c36e : ByteArray := prog_23_method_12_code
def yJ3_checkFromToIndex_8c36e : MethodName := ⟨RJ3, "checkFromToIndex", "(IIILjava/util/function/BiFunction;)I"⟩
abbrev vwCl : List vw_C := [(RX0, TX0, 7), (RX1, TX1, 3), (RX2, TX2, 5), (RX3, TX3, 8), (RX4, TX4, 10), (RX5, TX5, 18), (RX6, TX6, 8), (RX7, TX7, 6), (RX8, TX8, 2), (RX9, TX9, 5), (RX10, TX10, 4), (RX11, TX11, 12), (RX12, TX12, 71)]
set_option maxRecDepth 20000 in
theorem inX0 : ∀ w ∈ u_ws RX0 TX0 7, w ∈ lw_tbl := by decide +kernel
set_option maxRecDepth 20000 in
theorem inX1 : ∀ w ∈ u_ws RX1 TX1 3, w ∈ lw_tbl := by decide +kernel
set_option maxRecDepth 20000 in
theorem inX2 : ∀ w ∈ u_ws RX2 TX2 5, w ∈ lw_tbl := by decide +kernel
set_option maxRecDepth 20000 in
theorem inX3 : ∀ w ∈ u_ws RX3 TX3 8, w ∈ lw_tbl := by decide +kernel
set_option maxRecDepth 20000 in
theorem inX4 : ∀ w ∈ u_ws RX4 TX4 10, w ∈ lw_tbl := by decide +kernel
set_option maxRecDepth 20000 in
theorem inX5 : ∀ w ∈ u_ws RX5 TX5 18, w ∈ lw_tbl := by decide +kernel
set_option maxRecDepth 20000 in
theorem inX6 : ∀ w ∈ u_ws RX6 TX6 8, w ∈ lw_tbl := by decide +kernel
set_option maxRecDepth 20000 in
theorem inX7 : ∀ w ∈ u_ws RX7 TX7 6, w ∈ lw_tbl := by decide +kernel
set_option maxRecDepth 20000 in
theorem inX8 : ∀ w ∈ u_ws RX8 TX8 2, w ∈ lw_tbl := by decide +kernel
set_option maxRecDepth 20000 in
theorem inX9 : ∀ w ∈ u_ws RX9 TX9 5, w ∈ lw_tbl := by decide +kernel
set_option maxRecDepth 20000 in
theorem inX10 : ∀ w ∈ u_ws RX10 TX10 4, w ∈ lw_tbl := by decide +kernel
set_option maxRecDepth 20000 in
theorem inX11 : ∀ w ∈ u_ws RX11 TX11 12, w ∈ lw_tbl := by decide +kernel
set_option maxRecDepth 20000 in
theorem inX12 : ∀ w ∈ u_ws RX12 TX12 71, w ∈ lw_tbl := by decide +kernel
def gw_tbl : List Cond := lw_tbl.filter goodWord
theorem gw_of {w : Cond} (h : w ∈ lw_tbl) (hg : goodWord w = true) : w ∈ gw_tbl := List.mem_filter.mpr ⟨h, hg⟩
theorem gw_ix (i : Nat) {w : Cond} (h : (lw_tbl[i]? == some w && goodWord w) = true) : w ∈ gw_tbl := by
  rw [Bool.and_eq_true] at h
  exact gw_of (List.mem_of_getElem? (eq_of_beq h.1)) h.2
theorem gw_good : GoodIn gw_tbl gw_tbl := fun w h => ⟨h, good_of_word (List.mem_filter.mp h).2⟩
set_option maxRecDepth 20000 in
theorem gnX0 : ∀ w ∈ u_ws RX0 TX0 7, w ∈ gw_tbl := fun w h => gw_of (inX0 w h) ((by decide +kernel : ∀ w ∈ u_ws RX0 TX0 7, goodWord w = true) w h)
set_option maxRecDepth 20000 in
theorem gnX1 : ∀ w ∈ u_ws RX1 TX1 3, w ∈ gw_tbl := fun w h => gw_of (inX1 w h) ((by decide +kernel : ∀ w ∈ u_ws RX1 TX1 3, goodWord w = true) w h)
set_option maxRecDepth 20000 in
theorem gnX2 : ∀ w ∈ u_ws RX2 TX2 5, w ∈ gw_tbl := fun w h => gw_of (inX2 w h) ((by decide +kernel : ∀ w ∈ u_ws RX2 TX2 5, goodWord w = true) w h)
set_option maxRecDepth 20000 in
theorem gnX3 : ∀ w ∈ u_ws RX3 TX3 8, w ∈ gw_tbl := fun w h => gw_of (inX3 w h) ((by decide +kernel : ∀ w ∈ u_ws RX3 TX3 8, goodWord w = true) w h)
set_option maxRecDepth 20000 in
theorem gnX4 : ∀ w ∈ u_ws RX4 TX4 10, w ∈ gw_tbl := fun w h => gw_of (inX4 w h) ((by decide +kernel : ∀ w ∈ u_ws RX4 TX4 10, goodWord w = true) w h)
set_option maxRecDepth 20000 in
theorem gnX5 : ∀ w ∈ u_ws RX5 TX5 18, w ∈ gw_tbl := fun w h => gw_of (inX5 w h) ((by decide +kernel : ∀ w ∈ u_ws RX5 TX5 18, goodWord w = true) w h)
set_option maxRecDepth 20000 in
theorem gnX6 : ∀ w ∈ u_ws RX6 TX6 8, w ∈ gw_tbl := fun w h => gw_of (inX6 w h) ((by decide +kernel : ∀ w ∈ u_ws RX6 TX6 8, goodWord w = true) w h)
set_option maxRecDepth 20000 in
theorem gnX7 : ∀ w ∈ u_ws RX7 TX7 6, w ∈ gw_tbl := fun w h => gw_of (inX7 w h) ((by decide +kernel : ∀ w ∈ u_ws RX7 TX7 6, goodWord w = true) w h)
set_option maxRecDepth 20000 in
theorem gnX8 : ∀ w ∈ u_ws RX8 TX8 2, w ∈ gw_tbl := fun w h => gw_of (inX8 w h) ((by decide +kernel : ∀ w ∈ u_ws RX8 TX8 2, goodWord w = true) w h)
set_option maxRecDepth 20000 in
theorem gnX9 : ∀ w ∈ u_ws RX9 TX9 5, w ∈ gw_tbl := fun w h => gw_of (inX9 w h) ((by decide +kernel : ∀ w ∈ u_ws RX9 TX9 5, goodWord w = true) w h)
set_option maxRecDepth 20000 in
theorem gnX10 : ∀ w ∈ u_ws RX10 TX10 4, w ∈ gw_tbl := fun w h => gw_of (inX10 w h) ((by decide +kernel : ∀ w ∈ u_ws RX10 TX10 4, goodWord w = true) w h)
set_option maxRecDepth 20000 in
theorem gnX11 : ∀ w ∈ u_ws RX11 TX11 12, w ∈ gw_tbl := fun w h => gw_of (inX11 w h) ((by decide +kernel : ∀ w ∈ u_ws RX11 TX11 12, goodWord w = true) w h)
set_option maxRecDepth 20000 in
theorem gnX12 : ∀ w ∈ u_ws RX12 TX12 71, w ∈ gw_tbl := fun w h => gw_of (inX12 w h) ((by decide +kernel : ∀ w ∈ u_ws RX12 TX12 71, goodWord w = true) w h)
end
section
/-! The typed heap of the system: ints by (cell, slot), longs by (cell, slot); the references stand in a layout that doesn't change. -/
abbrev qv_St : Type := (Nat → Nat → Int32) × (Nat → Nat → Int64)
abbrev qv_Lc : Type := (Nat × List (Option Nat)) ⊕ (Nat × Nat × List Nat)
abbrev qv_GT : Type := Launch × va_G × (Nat → Nat) × (Nat → ClassId)
abbrev qv_XT : Type := Program × Env × State × MethodId × Array Value × List Frame × Method × Code
def qv_tys (cy : Nat → ClassId) : List (ClassId × FieldType) := [(cy 0, .int), (cy 1, .byte), (cy 2, .boolean), (cy 3, .long), (cy 4, .object "QuietTake$State")]
def qv_fv (ad : Nat → Nat) (S : qv_St) (q j : Nat) (f : Option Nat) : Value := match f with
  | none => .int (S.1 q j)
  | some r => .ref (ad r)
def qv_cell (ad : Nat → Nat) (cy : Nat → ClassId) (S : qv_St) (q : Nat) (c : qv_Lc) : va_E := match c with
  | .inl o => .inr (o.1, o.2.mapIdx (qv_fv ad S q))
  | .inr a => if a.1 = 4 then .inl (cy 4, a.2.1, .inr (.inr (.inr (.inr (fun i => (a.2.2[i]?).map ad))))) else if a.1 = 3 then .inl (cy 3, a.2.1, .inr (.inl (S.2 q))) else .inl (cy a.1, a.2.1, .inl (S.1 q))
def qv_wd (ad : Nat → Nat) (cy : Nat → ClassId) (L : List qv_Lc) (S : qv_St) : va_W := L.mapIdx (fun q c => (ad q, qv_cell ad cy S q c))
def qv_u2 (M : Nat → Nat → Int32) (q k : Nat) (x : Int32) : Nat → Nat → Int32 := fun i => if i = q then upd (M q) k x else M i
def qv_l2 (M : Nat → Nat → Int64) (q k : Nat) (x : Int64) : Nat → Nat → Int64 := fun i => if i = q then vp_updL (M q) k x else M i
def qv_si (S : qv_St) (q k : Nat) (x : Int32) : qv_St := (qv_u2 S.1 q k x, S.2)
def qv_sl (S : qv_St) (q k : Nat) (x : Int64) : qv_St := (S.1, qv_l2 S.2 q k x)
def qv_inj (ad : Nat → Nat) (L : List qv_Lc) : Prop := ∀ i j : Nat, i < L.length → j < L.length → ad i = ad j → i = j
def qv_A (ad : Nat → Nat) (L : List qv_Lc) : Nat → Prop := fun a => ∃ q : Nat, q < L.length ∧ a = ad q
theorem qv_at {ad : Nat → Nat} {cy : Nat → ClassId} {L : List qv_Lc} {S : qv_St} {q : Nat} {c : qv_Lc} (h : L[q]? = some c) : (qv_wd ad cy L S)[q]? = some (ad q, qv_cell ad cy S q c) := by
  simp [qv_wd, h]
theorem qv_at_inv {ad : Nat → Nat} {cy : Nat → ClassId} {L : List qv_Lc} {S : qv_St} {q : Nat} {z : Nat × va_E} (h : (qv_wd ad cy L S)[q]? = some z) : q < L.length ∧ z.1 = ad q := by
  rw [qv_wd, List.getElem?_mapIdx] at h
  cases hq : L[q]? with
  | none => rw [hq] at h; cases h
  | some c =>
    rw [hq] at h
    cases h
    exact ⟨(List.getElem?_eq_some_iff.mp hq).1, rfl⟩
theorem qv_D {ad : Nat → Nat} {cy : Nat → ClassId} {L : List qv_Lc} {S : qv_St} (h : qv_inj ad L) : va_D (qv_A ad L) (qv_wd ad cy L S) := by
  refine ⟨fun i j p q hi hj e => ?_, fun k q hk => ?_⟩
  · obtain ⟨h1, h2⟩ := qv_at_inv hi
    obtain ⟨h3, h4⟩ := qv_at_inv hj
    exact h i j h1 h3 (by rw [← h2, ← h4]; exact e)
  · obtain ⟨h1, h2⟩ := qv_at_inv hk
    exact ⟨k, h1, h2⟩
theorem qv_cell_ne {ad : Nat → Nat} {cy : Nat → ClassId} {S S' : qv_St} {q : Nat} {c : qv_Lc} (h1 : S'.1 q = S.1 q) (h2 : S'.2 q = S.2 q) : qv_cell ad cy S' q c = qv_cell ad cy S q c := by
  have hf : qv_fv ad S' q = qv_fv ad S q := by
    funext j f
    cases f with
    | none => simp [qv_fv, h1]
    | some r => rfl
  cases c with
  | inl o => simp [qv_cell, hf]
  | inr a => simp [qv_cell, h1, h2]
theorem qv_wd_set {ad : Nat → Nat} {cy : Nat → ClassId} {L : List qv_Lc} {S S' : qv_St} {q : Nat} {c : qv_Lc} {e : va_E} (h : L[q]? = some c) (he : qv_cell ad cy S' q c = e) (hn : ∀ i, i ≠ q → S'.1 i = S.1 i ∧ S'.2 i = S.2 i) : (qv_wd ad cy L S).set q (ad q, e) = qv_wd ad cy L S' := by
  apply List.ext_getElem?
  intro i
  by_cases hi : i = q
  · subst hi
    rw [List.getElem?_set_self (by simp [qv_wd]; exact (List.getElem?_eq_some_iff.mp h).1), qv_at h, he]
  · rw [List.getElem?_set_ne (Ne.symm hi)]
    simp only [qv_wd, List.getElem?_mapIdx]
    cases L[i]? with
    | none => rfl
    | some c2 => simp [qv_cell_ne (hn i hi).1 (hn i hi).2]
theorem qv_si_ne {S : qv_St} {q k : Nat} {x : Int32} : ∀ i, i ≠ q → (qv_si S q k x).1 i = S.1 i ∧ (qv_si S q k x).2 i = S.2 i := fun i h => ⟨by simp [qv_si, qv_u2, h], rfl⟩
theorem qv_sl_ne {S : qv_St} {q k : Nat} {x : Int64} : ∀ i, i ≠ q → (qv_sl S q k x).1 i = S.1 i ∧ (qv_sl S q k x).2 i = S.2 i := fun i h => ⟨rfl, by simp [qv_sl, qv_l2, h]⟩
theorem qv_fset {ad : Nat → Nat} {S : qv_St} {q k : Nat} {x : Int32} {fs : List (Option Nat)} (hk : fs[k]? = some none) : fs.mapIdx (qv_fv ad (qv_si S q k x) q) = (fs.mapIdx (qv_fv ad S q)).set k (.int x) := by
  apply List.ext_getElem?
  intro i
  rw [List.getElem?_mapIdx]
  by_cases hi : i = k
  · subst hi
    rw [List.getElem?_set_self (by simp; exact (List.getElem?_eq_some_iff.mp hk).1), hk]
    simp [qv_fv, qv_si, qv_u2, upd]
  · rw [List.getElem?_set_ne (Ne.symm hi), List.getElem?_mapIdx]
    cases fs[i]? with
    | none => rfl
    | some f =>
      cases f with
      | none => simp [qv_fv, qv_si, qv_u2, upd, hi]
      | some r => rfl
theorem qv_set_f {ad : Nat → Nat} {cy : Nat → ClassId} {L : List qv_Lc} {S : qv_St} {q k ci : Nat} {x : Int32} {fs : List (Option Nat)} (h : L[q]? = some (.inl (ci, fs))) (hk : fs[k]? = some none) : (qv_wd ad cy L S).set q (ad q, .inr (ci, (fs.mapIdx (qv_fv ad S q)).set k (.int x))) = qv_wd ad cy L (qv_si S q k x) :=
  qv_wd_set h (by simp only [qv_cell]; rw [qv_fset hk]) qv_si_ne
theorem qv_set_a {ad : Nat → Nat} {cy : Nat → ClassId} {L : List qv_Lc} {S : qv_St} {q k t n : Nat} {x : Int32} {rs : List Nat} (h : L[q]? = some (.inr (t, n, rs))) (ht : t < 3) : (qv_wd ad cy L S).set q (ad q, .inl (cy t, n, .inl (upd (S.1 q) k x))) = qv_wd ad cy L (qv_si S q k x) :=
  qv_wd_set h (by simp only [qv_cell, show ¬ t = 4 by omega, show ¬ t = 3 by omega, if_false]; simp [qv_si, qv_u2]) qv_si_ne
theorem qv_set_l {ad : Nat → Nat} {cy : Nat → ClassId} {L : List qv_Lc} {S : qv_St} {q k n : Nat} {x : Int64} {rs : List Nat} (h : L[q]? = some (.inr (3, n, rs))) : (qv_wd ad cy L S).set q (ad q, .inl (cy 3, n, .inr (.inl (vp_updL (S.2 q) k x)))) = qv_wd ad cy L (qv_sl S q k x) :=
  qv_wd_set h (by simp [qv_cell, qv_sl, qv_l2]) qv_sl_ne
theorem qv_at_a {ad : Nat → Nat} {cy : Nat → ClassId} {L : List qv_Lc} {S : qv_St} {q t n : Nat} {rs : List Nat} (h : L[q]? = some (.inr (t, n, rs))) (ht : t < 3) : (qv_wd ad cy L S)[q]? = some (ad q, .inl (cy t, n, .inl (S.1 q))) := by
  rw [qv_at h]
  simp [qv_cell, show ¬ t = 4 by omega, show ¬ t = 3 by omega]
theorem qv_at_l {ad : Nat → Nat} {cy : Nat → ClassId} {L : List qv_Lc} {S : qv_St} {q n : Nat} {rs : List Nat} (h : L[q]? = some (.inr (3, n, rs))) : (qv_wd ad cy L S)[q]? = some (ad q, .inl (cy 3, n, .inr (.inl (S.2 q)))) := by
  rw [qv_at h]
  simp [qv_cell]
theorem qv_at_r {ad : Nat → Nat} {cy : Nat → ClassId} {L : List qv_Lc} {S : qv_St} {q n : Nat} {rs : List Nat} (h : L[q]? = some (.inr (4, n, rs))) : (qv_wd ad cy L S)[q]? = some (ad q, .inl (cy 4, n, .inr (.inr (.inr (.inr (fun i => (rs[i]?).map ad)))))) := by
  rw [qv_at h]
  simp [qv_cell]
theorem qv_at_o {ad : Nat → Nat} {cy : Nat → ClassId} {L : List qv_Lc} {S : qv_St} {q ci : Nat} {fs : List (Option Nat)} (h : L[q]? = some (.inl (ci, fs))) : (qv_wd ad cy L S)[q]? = some (ad q, .inr (ci, fs.mapIdx (qv_fv ad S q))) := qv_at h
/-! The words of pure programs: a name for a value, a join of ways, a check, a loop. -/
def qv_b {α β : Type} (e : α) (k : α → β) : β := k e
def qv_j {α β : Type} (K : α) (b : α → β) : β := b K
def qv_in (i : Int32) (n : Nat) : Bool := decide (¬ (i < 0 ∨ n ≤ i.toNatClampNeg))
theorem qv_in_iff {i : Int32} {n : Nat} : qv_in i n = true ↔ vp_in i n := by simp [qv_in, vp_in]
def qv_ck {ρ : Type} (i : Int32) (n : Nat) (o : Option ρ) : Option ρ := if qv_in i n = true then o else none
def qv_nz {ρ : Type} (y : Int32) (o : Option ρ) : Option ρ := if y = 0 then none else o
def qv_rz {ρ : Type} (y : Int32) (o : Option ρ) : Option ρ := if y = 0 ∨ y = 1 then o else none
def qv_cm {ρ : Type} (o : Option (qv_St × Int32)) (k : qv_St → Int32 → Option ρ) : Option ρ := o.bind (fun z => k z.1 z.2)
end
section
def qv_s0 : String := ";=+-*/<()"
def qv_s1 : String := "clock   chance  place   shot    hear    bears   rustles move    coins   seed    if      then    else    loud    age     lasts   far     limit   second  stood   which   day     "
def qv_len : List Nat := [9, 176]
def qv_b0 : List Int32 := [59, 61, 43, 45, 42, 47, 60, 40, 41]
def qv_b1 : List Int32 := [99, 108, 111, 99, 107, 32, 32, 32, 99, 104, 97, 110, 99, 101, 32, 32, 112, 108, 97, 99, 101, 32, 32, 32, 115, 104, 111, 116, 32, 32, 32, 32, 104, 101, 97, 114, 32, 32, 32, 32, 98, 101, 97, 114, 115, 32, 32, 32, 114, 117, 115, 116, 108, 101, 115, 32, 109, 111, 118, 101, 32, 32, 32, 32, 99, 111, 105, 110, 115, 32, 32, 32, 115, 101, 101, 100, 32, 32, 32, 32, 105, 102, 32, 32, 32, 32, 32, 32, 116, 104, 101, 110, 32, 32, 32, 32, 101, 108, 115, 101, 32, 32, 32, 32, 108, 111, 117, 100, 32, 32, 32, 32, 97, 103, 101, 32, 32, 32, 32, 32, 108, 97, 115, 116, 115, 32, 32, 32, 102, 97, 114, 32, 32, 32, 32, 32, 108, 105, 109, 105, 116, 32, 32, 32, 115, 101, 99, 111, 110, 100, 32, 32, 115, 116, 111, 111, 100, 32, 32, 32, 119, 104, 105, 99, 104, 32, 32, 32, 100, 97, 121, 32, 32, 32, 32, 32]
def qv_byt : List (List Int32) := [qv_b0, qv_b1]
def qv_fm (G : qv_GT) : Value := if G.2.2.1 3001 = 0 then .null else .ref (G.2.2.1 3000)
theorem qv_fm_cat {G : qv_GT} : (qv_fm G).category = 1 := by unfold qv_fm; split <;> rfl
/-- the two texts of the class: they are no cells of the world, and never change -/
def qv_ro (G : qv_GT) (L : List qv_Lc) (U : State) : Prop := vk_S 2 qv_len qv_byt (fun i => G.2.2.1 (1000 + i)) (fun i => G.2.2.1 (2000 + i)) (qv_A G.2.2.1 L) U U.heap ∧ vk_R "QuietTake$Tokens" 66 qv_s0 (G.2.2.1 1000) U ∧ vk_R "QuietTake$Tokens" 77 qv_s1 (G.2.2.1 1001) U ∧ va_Z "java/lang/String" "COMPACT_STRINGS" "Z" (.int 1) (qv_A G.2.2.1 L) U U.heap ∧ va_Z "jdk/internal/util/Preconditions" "SIOOBE_FORMATTER" "Ljava/util/function/BiFunction;" (qv_fm G) (qv_A G.2.2.1 L) U U.heap ∧ va_Nw (.methodLinkNest "QuietTake$Reader" 108 ⟨"QuietTake", "within", "(III)Z"⟩ "QuietTake") U
theorem qv_ro_go {G : qv_GT} {L : List qv_Lc} {s U : State} {H : Heap} {locs : List Loc} (h : qv_ro G L s) (hS : va_S (qv_A G.2.2.1 L) s.heap H locs) (hU : U.heap = H) (hW : s.WarmedH U.vm) : qv_ro G L U := by
  obtain ⟨h1, h2, h3, h4, h5, h6⟩ := h
  exact ⟨by rw [hU]; exact (h1.kept hS.2.1).moved hW.alike, h2.warm hW, h3.warm hW, by rw [hU]; exact (h4.kept hS.2.1).moved hW.alike, by rw [hU]; exact (h5.kept hS.2.1).moved hW.alike, h6.warmM hW⟩
/-! VV: from this pc, these locals, this stack and this heap, the method comes to the end that the pure program o tells. -/
def qv_roomx (cx sx lev : Nat) : Room := { frames := lev, cells := cx, slots := sx, locals := 64 * lev }
def qv_room (lev : Nat) : Room := { frames := lev, cells := 0, slots := 0, locals := 64 * lev }
def qv_Q (G : qv_GT) (L : List qv_Lc) (r : qv_St × Option Value) : Array Value → State → Outcome → State → Prop := fun _ st oc t => oc = .returned r.2 ∧ va_P G.2.1 vwCl (qv_wd G.2.2.1 G.2.2.2 L r.1) t.heap ∧ va_F (qv_A G.2.2.1 L) st t
def qv_ok (G : qv_GT) (L : List qv_Lc) (X : qv_XT) (own : String) (cc : ByteArray) (nL : Nat) (ret : Option FieldType) : Prop :=
  (X.1.tables.exec = Jvm.exec ∧ X.2.2.2.2.2.2.2.code = cc ∧ X.2.2.2.2.2.2.2.maxLocals = nL ∧ X.2.2.1.vm.findClass own = some X.2.2.2.1.cls ∧ ∀ w ∈ gw_tbl, w.before X.2.2.2.2.1 X.2.2.1 = true) ∧ X.2.2.2.2.2.2.1.sig.returnType = ret ∧ X.2.2.2.2.2.2.1.locks = false ∧ va_K G.2.1 vwCl (qv_tys G.2.2.2) X.2.2.1 ∧ qv_inj G.2.2.1 L ∧ qv_ro G L X.2.2.1
def VVx (cx sx : Nat) (G : qv_GT) (L : List qv_Lc) (X : qv_XT) (own : String) (cc : ByteArray) (nL : Nat) (ret : Option FieldType) (lev : Nat) {ρ : Type} (emb : ρ → qv_St × Option Value) (pc : Nat) (lv : List (Nat × Value)) (st : List Value) (S : qv_St) (o : Option ρ) : Prop :=
  ∀ r : ρ, o = some r → qv_ok G L X own cc nL ret → ∀ (H : Heap) (locs : List Loc) (ls : Array Slot), va_P G.2.1 vwCl (qv_wd G.2.2.1 G.2.2.2 L S) H → va_S (qv_A G.2.2.1 L) X.2.2.1.heap H locs → lv_has ls nL lv → W X.1 G.1 X.2.1 (qv_roomx cx sx lev) X.2.2.1 X.2.2.2.1 X.2.2.2.2.1 X.2.2.2.2.2.1 X.2.2.2.2.2.2.1 X.2.2.2.2.2.2.2 H locs cx sx (MQ X.2.2.2.2.2.1 (qv_Q G L (emb r)) X.2.2.2.2.1 X.2.2.1 cx sx (qv_A G.2.2.1 L)) (F0 X.2.2.2.1 pc ls st)
abbrev VV (G : qv_GT) (L : List qv_Lc) (X : qv_XT) (own : String) (cc : ByteArray) (nL : Nat) (ret : Option FieldType) (lev : Nat) {ρ : Type} (emb : ρ → qv_St × Option Value) (pc : Nat) (lv : List (Nat × Value)) (st : List Value) (S : qv_St) (o : Option ρ) : Prop := VVx 0 0 G L X own cc nL ret lev emb pc lv st S o
section QVR
variable {cx sx : Nat} {G : qv_GT} {L : List qv_Lc} {X : qv_XT} {own : String} {cc : ByteArray} {nL : Nat} {ret : Option FieldType} {lev : Nat} {ρ : Type} {emb : ρ → qv_St × Option Value} {pc : Nat} {lv : List (Nat × Value)} {st : List Value} {S : qv_St} {o : Option ρ}
theorem qr_iadd {x y : Int32} {n : Nat} (hd : decode cc pc = .ok (.iadd, 1)) (hn : pc + 1 = n) (k : VVx cx sx G L X own cc nL ret lev emb n lv (.int (x + y) :: st) S o) : VVx cx sx G L X own cc nL ret lev emb pc lv (.int y :: .int x :: st) S o := by
  subst hn
  intro r hr ok H locs ls hP hS hl
  obtain ⟨hx, hb, hml, hown, hts⟩ := ok.1
  exact lv_iadd hx hb hd (k r hr ok H locs ls hP hS hl)
theorem qr_isub {x y : Int32} {n : Nat} (hd : decode cc pc = .ok (.isub, 1)) (hn : pc + 1 = n) (k : VVx cx sx G L X own cc nL ret lev emb n lv (.int (x - y) :: st) S o) : VVx cx sx G L X own cc nL ret lev emb pc lv (.int y :: .int x :: st) S o := by
  subst hn
  intro r hr ok H locs ls hP hS hl
  obtain ⟨hx, hb, hml, hown, hts⟩ := ok.1
  exact lv_isub hx hb hd (k r hr ok H locs ls hP hS hl)
theorem qr_imul {x y : Int32} {n : Nat} (hd : decode cc pc = .ok (.imul, 1)) (hn : pc + 1 = n) (k : VVx cx sx G L X own cc nL ret lev emb n lv (.int (x * y) :: st) S o) : VVx cx sx G L X own cc nL ret lev emb pc lv (.int y :: .int x :: st) S o := by
  subst hn
  intro r hr ok H locs ls hP hS hl
  obtain ⟨hx, hb, hml, hown, hts⟩ := ok.1
  exact lv_imul hx hb hd (k r hr ok H locs ls hP hS hl)
theorem qr_iand {x y : Int32} {n : Nat} (hd : decode cc pc = .ok (.iand, 1)) (hn : pc + 1 = n) (k : VVx cx sx G L X own cc nL ret lev emb n lv (.int (x &&& y) :: st) S o) : VVx cx sx G L X own cc nL ret lev emb pc lv (.int y :: .int x :: st) S o := by
  subst hn
  intro r hr ok H locs ls hP hS hl
  obtain ⟨hx, hb, hml, hown, hts⟩ := ok.1
  exact lv_iand hx hb hd (k r hr ok H locs ls hP hS hl)
theorem qr_ior {x y : Int32} {n : Nat} (hd : decode cc pc = .ok (.ior, 1)) (hn : pc + 1 = n) (k : VVx cx sx G L X own cc nL ret lev emb n lv (.int (x ||| y) :: st) S o) : VVx cx sx G L X own cc nL ret lev emb pc lv (.int y :: .int x :: st) S o := by
  subst hn
  intro r hr ok H locs ls hP hS hl
  obtain ⟨hx, hb, hml, hown, hts⟩ := ok.1
  exact lv_ior hx hb hd (k r hr ok H locs ls hP hS hl)
theorem qr_ixor {x y : Int32} {n : Nat} (hd : decode cc pc = .ok (.ixor, 1)) (hn : pc + 1 = n) (k : VVx cx sx G L X own cc nL ret lev emb n lv (.int (x ^^^ y) :: st) S o) : VVx cx sx G L X own cc nL ret lev emb pc lv (.int y :: .int x :: st) S o := by
  subst hn
  intro r hr ok H locs ls hP hS hl
  obtain ⟨hx, hb, hml, hown, hts⟩ := ok.1
  exact lv_ixor hx hb hd (k r hr ok H locs ls hP hS hl)
theorem qr_ishl {x y : Int32} {n : Nat} (hd : decode cc pc = .ok (.ishl, 1)) (hn : pc + 1 = n) (k : VVx cx sx G L X own cc nL ret lev emb n lv (.int (x <<< (y &&& 31)) :: st) S o) : VVx cx sx G L X own cc nL ret lev emb pc lv (.int y :: .int x :: st) S o := by
  subst hn
  intro r hr ok H locs ls hP hS hl
  obtain ⟨hx, hb, hml, hown, hts⟩ := ok.1
  exact lv_ishl hx hb hd (k r hr ok H locs ls hP hS hl)
theorem qr_ishr {x y : Int32} {n : Nat} (hd : decode cc pc = .ok (.ishr, 1)) (hn : pc + 1 = n) (k : VVx cx sx G L X own cc nL ret lev emb n lv (.int (x >>> (y &&& 31)) :: st) S o) : VVx cx sx G L X own cc nL ret lev emb pc lv (.int y :: .int x :: st) S o := by
  subst hn
  intro r hr ok H locs ls hP hS hl
  obtain ⟨hx, hb, hml, hown, hts⟩ := ok.1
  exact lv_ishr hx hb hd (k r hr ok H locs ls hP hS hl)
theorem qr_iushr {x y : Int32} {n : Nat} (hd : decode cc pc = .ok (.iushr, 1)) (hn : pc + 1 = n) (k : VVx cx sx G L X own cc nL ret lev emb n lv (.int ((x.toUInt32 >>> (y.toUInt32 &&& Int32.toUInt32 31)).toInt32) :: st) S o) : VVx cx sx G L X own cc nL ret lev emb pc lv (.int y :: .int x :: st) S o := by
  subst hn
  intro r hr ok H locs ls hP hS hl
  obtain ⟨hx, hb, hml, hown, hts⟩ := ok.1
  exact lv_iushr hx hb hd rfl (k r hr ok H locs ls hP hS hl)
theorem qr_ineg {x : Int32} {n : Nat} (hd : decode cc pc = .ok (.ineg, 1)) (hn : pc + 1 = n) (k : VVx cx sx G L X own cc nL ret lev emb n lv (.int (-x) :: st) S o) : VVx cx sx G L X own cc nL ret lev emb pc lv (.int x :: st) S o := by
  subst hn
  intro r hr ok H locs ls hP hS hl
  obtain ⟨hx, hb, hml, hown, hts⟩ := ok.1
  exact lv_ineg hx hb hd (k r hr ok H locs ls hP hS hl)
theorem qr_i2b {x : Int32} {n : Nat} (hd : decode cc pc = .ok (.i2b, 1)) (hn : pc + 1 = n) (k : VVx cx sx G L X own cc nL ret lev emb n lv (.int x.toInt8.toInt32 :: st) S o) : VVx cx sx G L X own cc nL ret lev emb pc lv (.int x :: st) S o := by
  subst hn
  intro r hr ok H locs ls hP hS hl
  obtain ⟨hx, hb, hml, hown, hts⟩ := ok.1
  exact lv_i2b hx hb hd rfl (k r hr ok H locs ls hP hS hl)
theorem qr_i2c {x : Int32} {n : Nat} (hd : decode cc pc = .ok (.i2c, 1)) (hn : pc + 1 = n) (k : VVx cx sx G L X own cc nL ret lev emb n lv (.int (x.toUInt32 % 65536).toInt32 :: st) S o) : VVx cx sx G L X own cc nL ret lev emb pc lv (.int x :: st) S o := by
  subst hn
  intro r hr ok H locs ls hP hS hl
  obtain ⟨hx, hb, hml, hown, hts⟩ := ok.1
  exact lv_i2c hx hb hd rfl (k r hr ok H locs ls hP hS hl)
theorem qr_i2l {x : Int32} {n : Nat} (hd : decode cc pc = .ok (.i2l, 1)) (hn : pc + 1 = n) (k : VVx cx sx G L X own cc nL ret lev emb n lv (.long x.toInt64 :: st) S o) : VVx cx sx G L X own cc nL ret lev emb pc lv (.int x :: st) S o := by
  subst hn
  intro r hr ok H locs ls hP hS hl
  obtain ⟨hx, hb, hml, hown, hts⟩ := ok.1
  exact lv_i2l hx hb hd rfl (k r hr ok H locs ls hP hS hl)
theorem qr_l2i {x : Int64} {n : Nat} (hd : decode cc pc = .ok (.l2i, 1)) (hn : pc + 1 = n) (k : VVx cx sx G L X own cc nL ret lev emb n lv (.int x.toInt32 :: st) S o) : VVx cx sx G L X own cc nL ret lev emb pc lv (.long x :: st) S o := by
  subst hn
  intro r hr ok H locs ls hP hS hl
  obtain ⟨hx, hb, hml, hown, hts⟩ := ok.1
  exact lv_l2i hx hb hd rfl (k r hr ok H locs ls hP hS hl)
theorem qr_ladd {x y : Int64} {n : Nat} (hd : decode cc pc = .ok (.ladd, 1)) (hn : pc + 1 = n) (k : VVx cx sx G L X own cc nL ret lev emb n lv (.long (x + y) :: st) S o) : VVx cx sx G L X own cc nL ret lev emb pc lv (.long y :: .long x :: st) S o := by
  subst hn
  intro r hr ok H locs ls hP hS hl
  obtain ⟨hx, hb, hml, hown, hts⟩ := ok.1
  exact lv_ladd hx hb hd (k r hr ok H locs ls hP hS hl)
theorem qr_lsub {x y : Int64} {n : Nat} (hd : decode cc pc = .ok (.lsub, 1)) (hn : pc + 1 = n) (k : VVx cx sx G L X own cc nL ret lev emb n lv (.long (x - y) :: st) S o) : VVx cx sx G L X own cc nL ret lev emb pc lv (.long y :: .long x :: st) S o := by
  subst hn
  intro r hr ok H locs ls hP hS hl
  obtain ⟨hx, hb, hml, hown, hts⟩ := ok.1
  exact lv_lsub hx hb hd (k r hr ok H locs ls hP hS hl)
theorem qr_lmul {x y : Int64} {n : Nat} (hd : decode cc pc = .ok (.lmul, 1)) (hn : pc + 1 = n) (k : VVx cx sx G L X own cc nL ret lev emb n lv (.long (x * y) :: st) S o) : VVx cx sx G L X own cc nL ret lev emb pc lv (.long y :: .long x :: st) S o := by
  subst hn
  intro r hr ok H locs ls hP hS hl
  obtain ⟨hx, hb, hml, hown, hts⟩ := ok.1
  exact lv_lmul hx hb hd (k r hr ok H locs ls hP hS hl)
theorem qr_lcmp {x y : Int64} {n : Nat} (hd : decode cc pc = .ok (.lcmp, 1)) (hn : pc + 1 = n) (k : VVx cx sx G L X own cc nL ret lev emb n lv (.int (lg_cmp x y) :: st) S o) : VVx cx sx G L X own cc nL ret lev emb pc lv (.long y :: .long x :: st) S o := by
  subst hn
  intro r hr ok H locs ls hP hS hl
  obtain ⟨hx, hb, hml, hown, hts⟩ := ok.1
  exact W.lcmp hx hb hd (k r hr ok H locs ls hP hS hl)
theorem qr_idiv {x y : Int32} {n : Nat} (hd : decode cc pc = .ok (.idiv, 1)) (hn : pc + 1 = n) (k : VVx cx sx G L X own cc nL ret lev emb n lv (.int (x / y) :: st) S o) : VVx cx sx G L X own cc nL ret lev emb pc lv (.int y :: .int x :: st) S (qv_nz y o) := by
  subst hn
  intro r hr ok H locs ls hP hS hl
  obtain ⟨hx, hb, hml, hown, hts⟩ := ok.1
  unfold qv_nz at hr
  split at hr
  · cases hr
  · next h0 => exact lv_idiv hx hb hd h0 (k r hr ok H locs ls hP hS hl)
theorem qr_irem {x y : Int32} {n : Nat} (hd : decode cc pc = .ok (.irem, 1)) (hn : pc + 1 = n) (k : VVx cx sx G L X own cc nL ret lev emb n lv (.int (x - x / y * y) :: st) S o) : VVx cx sx G L X own cc nL ret lev emb pc lv (.int y :: .int x :: st) S (qv_nz y o) := by
  subst hn
  intro r hr ok H locs ls hP hS hl
  obtain ⟨hx, hb, hml, hown, hts⟩ := ok.1
  unfold qv_nz at hr
  split at hr
  · cases hr
  · next h0 => exact lv_irem hx hb hd h0 (k r hr ok H locs ls hP hS hl)
theorem qr_iconst {a : Int} (v : Int32) {n : Nat} (hd : decode cc pc = .ok (.iconst a, 1)) (hn : pc + 1 = n) (hv : Int32.ofInt a = v) (k : VVx cx sx G L X own cc nL ret lev emb n lv (.int v :: st) S o) : VVx cx sx G L X own cc nL ret lev emb pc lv st S o := by
  subst hn
  intro r hr ok H locs ls hP hS hl
  obtain ⟨hx, hb, hml, hown, hts⟩ := ok.1
  exact lv_iconst hx hb hd hv (k r hr ok H locs ls hP hS hl)
theorem qr_bipush {a : Int} (v : Int32) {n : Nat} (hd : decode cc pc = .ok (.bipush a, 2)) (hn : pc + 2 = n) (hv : (Int8.ofInt a).toInt32 = v) (k : VVx cx sx G L X own cc nL ret lev emb n lv (.int v :: st) S o) : VVx cx sx G L X own cc nL ret lev emb pc lv st S o := by
  subst hn
  intro r hr ok H locs ls hP hS hl
  obtain ⟨hx, hb, hml, hown, hts⟩ := ok.1
  exact lv_bipush hx hb hd hv (k r hr ok H locs ls hP hS hl)
theorem qr_sipush {a : Int} (v : Int32) {n : Nat} (hd : decode cc pc = .ok (.sipush a, 3)) (hn : pc + 3 = n) (hv : (Int16.ofInt a).toInt32 = v) (k : VVx cx sx G L X own cc nL ret lev emb n lv (.int v :: st) S o) : VVx cx sx G L X own cc nL ret lev emb pc lv st S o := by
  subst hn
  intro r hr ok H locs ls hP hS hl
  obtain ⟨hx, hb, hml, hown, hts⟩ := ok.1
  exact lv_sipush hx hb hd hv (k r hr ok H locs ls hP hS hl)
theorem qr_lconst {a : Fin 2} (v : Int64) {n : Nat} (hd : decode cc pc = .ok (.lconst a, 1)) (hn : pc + 1 = n) (hv : Int64.ofNat (a : Nat) = v) (k : VVx cx sx G L X own cc nL ret lev emb n lv (.long v :: st) S o) : VVx cx sx G L X own cc nL ret lev emb pc lv st S o := by
  subst hn
  intro r hr ok H locs ls hP hS hl
  obtain ⟨hx, hb, hml, hown, hts⟩ := ok.1
  exact lv_lconst hx hb hd hv (k r hr ok H locs ls hP hS hl)
theorem qr_ldc {idx : Nat} (v : Int32) {n : Nat} (hd : decode cc pc = .ok (.ldc idx, 2)) (hn : pc + 2 = n) (hw : Cond.constant own idx v ∈ gw_tbl) (k : VVx cx sx G L X own cc nL ret lev emb n lv (.int v :: st) S o) : VVx cx sx G L X own cc nL ret lev emb pc lv st S o := by
  subst hn
  intro r hr ok H locs ls hP hS hl
  obtain ⟨hx, hb, hml, hown, hts⟩ := ok.1
  exact lv_ldc hx hb hown (hts _ hw) hd (k r hr ok H locs ls hP hS hl)
theorem qr_ldcw {idx : Nat} (v : Int32) {n : Nat} (hd : decode cc pc = .ok (.ldc_w idx, 3)) (hn : pc + 3 = n) (hw : Cond.constant own idx v ∈ gw_tbl) (k : VVx cx sx G L X own cc nL ret lev emb n lv (.int v :: st) S o) : VVx cx sx G L X own cc nL ret lev emb pc lv st S o := by
  subst hn
  intro r hr ok H locs ls hP hS hl
  obtain ⟨hx, hb, hml, hown, hts⟩ := ok.1
  exact lv_ldcw hx hb hown (hts _ hw) hd (k r hr ok H locs ls hP hS hl)
theorem qr_ldc2 {idx : Nat} (v : Int64) {n : Nat} (hd : decode cc pc = .ok (.ldc2_w idx, 3)) (hn : pc + 3 = n) (hw : Cond.constantLong own idx v ∈ gw_tbl) (k : VVx cx sx G L X own cc nL ret lev emb n lv (.long v :: st) S o) : VVx cx sx G L X own cc nL ret lev emb pc lv st S o := by
  subst hn
  intro r hr ok H locs ls hP hS hl
  obtain ⟨hx, hb, hml, hown, hts⟩ := ok.1
  exact lv_ldc2 hx hb hown (hts _ hw) hd (k r hr ok H locs ls hP hS hl)
theorem qr_iload_n {q : Fin 4} {x : Int32} (j : Nat) {n : Nat} (hd : decode cc pc = .ok (.iload_n q, 1)) (hn : pc + 1 = n) (hj : lv[j]? = some ((q : Nat), .int x)) (k : VVx cx sx G L X own cc nL ret lev emb n lv (.int x :: st) S o) : VVx cx sx G L X own cc nL ret lev emb pc lv st S o := by
  subst hn
  intro r hr ok H locs ls hP hS hl
  obtain ⟨hx, hb, hml, hown, hts⟩ := ok.1
  exact lv_iload_n hx hb hd rfl (lv_at hl j hj) (k r hr ok H locs ls hP hS hl)
theorem qr_iload {i : Nat} {x : Int32} (j : Nat) {n : Nat} (hd : decode cc pc = .ok (.iload i, 2)) (hn : pc + 2 = n) (hj : lv[j]? = some (i, .int x)) (k : VVx cx sx G L X own cc nL ret lev emb n lv (.int x :: st) S o) : VVx cx sx G L X own cc nL ret lev emb pc lv st S o := by
  subst hn
  intro r hr ok H locs ls hP hS hl
  obtain ⟨hx, hb, hml, hown, hts⟩ := ok.1
  exact lv_iload hx hb hd (lv_at hl j hj) (k r hr ok H locs ls hP hS hl)
theorem qr_lload_n {q : Fin 4} {x : Int64} (j : Nat) {n : Nat} (hd : decode cc pc = .ok (.lload_n q, 1)) (hn : pc + 1 = n) (hj : lv[j]? = some ((q : Nat), .long x)) (k : VVx cx sx G L X own cc nL ret lev emb n lv (.long x :: st) S o) : VVx cx sx G L X own cc nL ret lev emb pc lv st S o := by
  subst hn
  intro r hr ok H locs ls hP hS hl
  obtain ⟨hx, hb, hml, hown, hts⟩ := ok.1
  exact lv_lload_n hx hb hd rfl (lv_at hl j hj) (k r hr ok H locs ls hP hS hl)
theorem qr_lload {i : Nat} {x : Int64} (j : Nat) {n : Nat} (hd : decode cc pc = .ok (.lload i, 2)) (hn : pc + 2 = n) (hj : lv[j]? = some (i, .long x)) (k : VVx cx sx G L X own cc nL ret lev emb n lv (.long x :: st) S o) : VVx cx sx G L X own cc nL ret lev emb pc lv st S o := by
  subst hn
  intro r hr ok H locs ls hP hS hl
  obtain ⟨hx, hb, hml, hown, hts⟩ := ok.1
  exact lv_lload hx hb hd (lv_at hl j hj) (k r hr ok H locs ls hP hS hl)
theorem qr_aload_n {q : Fin 4} {x : Nat} (j : Nat) {n : Nat} (hd : decode cc pc = .ok (.aload_n q, 1)) (hn : pc + 1 = n) (hj : lv[j]? = some ((q : Nat), .ref x)) (k : VVx cx sx G L X own cc nL ret lev emb n lv (.ref x :: st) S o) : VVx cx sx G L X own cc nL ret lev emb pc lv st S o := by
  subst hn
  intro r hr ok H locs ls hP hS hl
  obtain ⟨hx, hb, hml, hown, hts⟩ := ok.1
  exact lv_aload_n hx hb hd rfl (lv_at hl j hj) (k r hr ok H locs ls hP hS hl)
theorem qr_aload {i : Nat} {x : Nat} (j : Nat) {n : Nat} (hd : decode cc pc = .ok (.aload i, 2)) (hn : pc + 2 = n) (hj : lv[j]? = some (i, .ref x)) (k : VVx cx sx G L X own cc nL ret lev emb n lv (.ref x :: st) S o) : VVx cx sx G L X own cc nL ret lev emb pc lv st S o := by
  subst hn
  intro r hr ok H locs ls hP hS hl
  obtain ⟨hx, hb, hml, hown, hts⟩ := ok.1
  exact lv_aload hx hb hd (lv_at hl j hj) (k r hr ok H locs ls hP hS hl)
theorem qr_istore {i : Nat} {x : Int32} {n : Nat} {lv2 : List (Nat × Value)} (ks : List Nat) (hd : decode cc pc = .ok (.istore i, 2)) (hn : pc + 2 = n) (hi : i < nL) (hs : lv_pick ((i, Value.int x) :: lv.filter (fun q => !(q.1 == i) && !(q.1 + 1 == i && q.2.category == 2))) ks = lv2) (k : VVx cx sx G L X own cc nL ret lev emb n lv2 st S o) : VVx cx sx G L X own cc nL ret lev emb pc lv (.int x :: st) S o := by
  subst hn
  intro r hr ok H locs ls hP hS hl
  obtain ⟨hx, hb, hml, hown, hts⟩ := ok.1
  exact lv_istore hx hb hd hl hi rfl (fun ls2 hl2 => k r hr ok H locs ls2 hP hS (lv_sub hl2 ks hs))
theorem qr_istore_n {f : Fin 4} {i : Nat} {x : Int32} {n : Nat} {lv2 : List (Nat × Value)} (ks : List Nat) (hd : decode cc pc = .ok (.istore_n f, 1)) (hn : pc + 1 = n) (hf : (f : Nat) = i) (hi : i < nL) (hs : lv_pick ((i, Value.int x) :: lv.filter (fun q => !(q.1 == i) && !(q.1 + 1 == i && q.2.category == 2))) ks = lv2) (k : VVx cx sx G L X own cc nL ret lev emb n lv2 st S o) : VVx cx sx G L X own cc nL ret lev emb pc lv (.int x :: st) S o := by
  subst hn
  intro r hr ok H locs ls hP hS hl
  obtain ⟨hx, hb, hml, hown, hts⟩ := ok.1
  exact lv_istore_n hx hb hd hf hl hi rfl (fun ls2 hl2 => k r hr ok H locs ls2 hP hS (lv_sub hl2 ks hs))
theorem qr_lstore {i : Nat} {x : Int64} {n : Nat} {lv2 : List (Nat × Value)} (ks : List Nat) (hd : decode cc pc = .ok (.lstore i, 2)) (hn : pc + 2 = n) (hi : i + 1 < nL) (hs : lv_pick ((i, Value.long x) :: lv.filter (fun q => !(q.1 == i) && (!(q.1 == i + 1) && !(q.1 + 1 == i && q.2.category == 2)))) ks = lv2) (k : VVx cx sx G L X own cc nL ret lev emb n lv2 st S o) : VVx cx sx G L X own cc nL ret lev emb pc lv (.long x :: st) S o := by
  subst hn
  intro r hr ok H locs ls hP hS hl
  obtain ⟨hx, hb, hml, hown, hts⟩ := ok.1
  exact lv_lstore hx hb hd hl hi rfl (fun ls2 hl2 => k r hr ok H locs ls2 hP hS (lv_sub hl2 ks hs))
theorem qr_lstore_n {f : Fin 4} {i : Nat} {x : Int64} {n : Nat} {lv2 : List (Nat × Value)} (ks : List Nat) (hd : decode cc pc = .ok (.lstore_n f, 1)) (hn : pc + 1 = n) (hf : (f : Nat) = i) (hi : i + 1 < nL) (hs : lv_pick ((i, Value.long x) :: lv.filter (fun q => !(q.1 == i) && (!(q.1 == i + 1) && !(q.1 + 1 == i && q.2.category == 2)))) ks = lv2) (k : VVx cx sx G L X own cc nL ret lev emb n lv2 st S o) : VVx cx sx G L X own cc nL ret lev emb pc lv (.long x :: st) S o := by
  subst hn
  intro r hr ok H locs ls hP hS hl
  obtain ⟨hx, hb, hml, hown, hts⟩ := ok.1
  exact lv_lstore_n hx hb hd hf hl hi rfl (fun ls2 hl2 => k r hr ok H locs ls2 hP hS (lv_sub hl2 ks hs))
theorem qr_astore {i : Nat} {x : Nat} {n : Nat} {lv2 : List (Nat × Value)} (ks : List Nat) (hd : decode cc pc = .ok (.astore i, 2)) (hn : pc + 2 = n) (hi : i < nL) (hs : lv_pick ((i, Value.ref x) :: lv.filter (fun q => !(q.1 == i) && !(q.1 + 1 == i && q.2.category == 2))) ks = lv2) (k : VVx cx sx G L X own cc nL ret lev emb n lv2 st S o) : VVx cx sx G L X own cc nL ret lev emb pc lv (.ref x :: st) S o := by
  subst hn
  intro r hr ok H locs ls hP hS hl
  obtain ⟨hx, hb, hml, hown, hts⟩ := ok.1
  exact lv_astore hx hb hd hl hi rfl (fun ls2 hl2 => k r hr ok H locs ls2 hP hS (lv_sub hl2 ks hs))
theorem qr_astore_n {f : Fin 4} {i : Nat} {x : Nat} {n : Nat} {lv2 : List (Nat × Value)} (ks : List Nat) (hd : decode cc pc = .ok (.astore_n f, 1)) (hn : pc + 1 = n) (hf : (f : Nat) = i) (hi : i < nL) (hs : lv_pick ((i, Value.ref x) :: lv.filter (fun q => !(q.1 == i) && !(q.1 + 1 == i && q.2.category == 2))) ks = lv2) (k : VVx cx sx G L X own cc nL ret lev emb n lv2 st S o) : VVx cx sx G L X own cc nL ret lev emb pc lv (.ref x :: st) S o := by
  subst hn
  intro r hr ok H locs ls hP hS hl
  obtain ⟨hx, hb, hml, hown, hts⟩ := ok.1
  exact lv_astore_n hx hb hd hf hl hi rfl (fun ls2 hl2 => k r hr ok H locs ls2 hP hS (lv_sub hl2 ks hs))
theorem qr_iinc {i : Nat} {a : Int} {x v : Int32} {n : Nat} {lv2 : List (Nat × Value)} (j : Nat) (ks : List Nat) (hd : decode cc pc = .ok (.iinc i a, 3)) (hn : pc + 3 = n) (hj : lv[j]? = some (i, .int x)) (hv : Int32.ofInt a = v) (hi : i < nL) (hs : lv_pick ((i, Value.int (x + v)) :: lv.filter (fun q => !(q.1 == i) && !(q.1 + 1 == i && q.2.category == 2))) ks = lv2) (k : VVx cx sx G L X own cc nL ret lev emb n lv2 st S o) : VVx cx sx G L X own cc nL ret lev emb pc lv st S o := by
  subst hn
  subst hv
  intro r hr ok H locs ls hP hS hl
  obtain ⟨hx, hb, hml, hown, hts⟩ := ok.1
  exact lv_iinc hx hb hd hl hj rfl hi rfl (fun ls2 hl2 => k r hr ok H locs ls2 hP hS (lv_sub hl2 ks hs))
theorem qr_sub {lv2 : List (Nat × Value)} (ks : List Nat) (hs : lv_pick lv ks = lv2) (k : VVx cx sx G L X own cc nL ret lev emb pc lv2 st S o) : VVx cx sx G L X own cc nL ret lev emb pc lv st S o := fun r hr ok H locs ls hP hS hl => k r hr ok H locs ls hP hS (lv_sub hl ks hs)
theorem qr_b {α : Type} (e : α) {lvf : α → List (Nat × Value)} {stf : α → List Value} {Sf : α → qv_St} {of : α → Option ρ} (k : ∀ x : α, VVx cx sx G L X own cc nL ret lev emb pc (lvf x) (stf x) (Sf x) (of x)) : VVx cx sx G L X own cc nL ret lev emb pc (lvf e) (stf e) (Sf e) (qv_b e of) := k e
theorem qr_dup {va : Value} {n : Nat} (hd : decode cc pc = .ok (.dup, 1)) (hn : pc + 1 = n) (hc : va.category = 1) (k : VVx cx sx G L X own cc nL ret lev emb n lv (va :: va :: st) S o) : VVx cx sx G L X own cc nL ret lev emb pc lv (va :: st) S o := by
  subst hn
  intro r hr ok H locs ls hP hS hl
  obtain ⟨hx, hb, hml, hown, hts⟩ := ok.1
  exact lv_dup hx hb hd hc (k r hr ok H locs ls hP hS hl)
theorem qr_dup2 {va vb : Value} {n : Nat} (hd : decode cc pc = .ok (.dup2, 1)) (hn : pc + 1 = n) (hc : va.category = 1) (hc2 : vb.category = 1) (k : VVx cx sx G L X own cc nL ret lev emb n lv (va :: vb :: va :: vb :: st) S o) : VVx cx sx G L X own cc nL ret lev emb pc lv (va :: vb :: st) S o := by
  subst hn
  intro r hr ok H locs ls hP hS hl
  obtain ⟨hx, hb, hml, hown, hts⟩ := ok.1
  exact lv_dup2_11 hx hb hd hc hc2 (k r hr ok H locs ls hP hS hl)
theorem qr_pop {va : Value} {n : Nat} (hd : decode cc pc = .ok (.pop, 1)) (hn : pc + 1 = n) (hc : va.category = 1) (k : VVx cx sx G L X own cc nL ret lev emb n lv st S o) : VVx cx sx G L X own cc nL ret lev emb pc lv (va :: st) S o := by
  subst hn
  intro r hr ok H locs ls hP hS hl
  obtain ⟨hx, hb, hml, hown, hts⟩ := ok.1
  exact lv_pop hx hb hd hc (k r hr ok H locs ls hP hS hl)
theorem qr_goto {off : Int} {n : Nat} (hd : decode cc pc = .ok (.goto off, 3)) (hn : (pc : Int) + off = (n : Int)) (k : VVx cx sx G L X own cc nL ret lev emb n lv st S o) : VVx cx sx G L X own cc nL ret lev emb pc lv st S o := by
  intro r hr ok H locs ls hP hS hl
  obtain ⟨hx, hb, hml, hown, hts⟩ := ok.1
  exact lv_goto hx hb hd hn (k r hr ok H locs ls hP hS hl)
theorem qr_if_eq {x : Int32} {a b : Option ρ} {off : Int} {t n : Nat} (hd : decode cc pc = .ok (.ifCond .eq off, 3)) (ht : (pc : Int) + off = (t : Int)) (hn : pc + 3 = n) (kt : VVx cx sx G L X own cc nL ret lev emb t lv st S a) (kf : VVx cx sx G L X own cc nL ret lev emb n lv st S b) : VVx cx sx G L X own cc nL ret lev emb pc lv (.int x :: st) S (if x = 0 then a else b) := by
  subst hn
  intro r hr ok H locs ls hP hS hl
  obtain ⟨hx, hb, hml, hown, hts⟩ := ok.1
  exact lv_if_eq hx hb hd ht (fun h => kt r (by rw [if_pos h] at hr; exact hr) ok H locs ls hP hS hl) (fun h => kf r (by rw [if_neg h] at hr; exact hr) ok H locs ls hP hS hl)
theorem qr_icmp_eq {x y : Int32} {a b : Option ρ} {off : Int} {t n : Nat} (hd : decode cc pc = .ok (.if_icmp .eq off, 3)) (ht : (pc : Int) + off = (t : Int)) (hn : pc + 3 = n) (kt : VVx cx sx G L X own cc nL ret lev emb t lv st S a) (kf : VVx cx sx G L X own cc nL ret lev emb n lv st S b) : VVx cx sx G L X own cc nL ret lev emb pc lv (.int y :: .int x :: st) S (if x = y then a else b) := by
  subst hn
  intro r hr ok H locs ls hP hS hl
  obtain ⟨hx, hb, hml, hown, hts⟩ := ok.1
  exact lv_icmp_eq hx hb hd ht (fun h => kt r (by rw [if_pos h] at hr; exact hr) ok H locs ls hP hS hl) (fun h => kf r (by rw [if_neg h] at hr; exact hr) ok H locs ls hP hS hl)
theorem qr_if_ne {x : Int32} {a b : Option ρ} {off : Int} {t n : Nat} (hd : decode cc pc = .ok (.ifCond .ne off, 3)) (ht : (pc : Int) + off = (t : Int)) (hn : pc + 3 = n) (kt : VVx cx sx G L X own cc nL ret lev emb t lv st S b) (kf : VVx cx sx G L X own cc nL ret lev emb n lv st S a) : VVx cx sx G L X own cc nL ret lev emb pc lv (.int x :: st) S (if x = 0 then a else b) := by
  subst hn
  intro r hr ok H locs ls hP hS hl
  obtain ⟨hx, hb, hml, hown, hts⟩ := ok.1
  exact lv_if_ne hx hb hd ht (fun h => kt r (by rw [if_neg h] at hr; exact hr) ok H locs ls hP hS hl) (fun h => kf r (by rw [if_pos h] at hr; exact hr) ok H locs ls hP hS hl)
theorem qr_icmp_ne {x y : Int32} {a b : Option ρ} {off : Int} {t n : Nat} (hd : decode cc pc = .ok (.if_icmp .ne off, 3)) (ht : (pc : Int) + off = (t : Int)) (hn : pc + 3 = n) (kt : VVx cx sx G L X own cc nL ret lev emb t lv st S b) (kf : VVx cx sx G L X own cc nL ret lev emb n lv st S a) : VVx cx sx G L X own cc nL ret lev emb pc lv (.int y :: .int x :: st) S (if x = y then a else b) := by
  subst hn
  intro r hr ok H locs ls hP hS hl
  obtain ⟨hx, hb, hml, hown, hts⟩ := ok.1
  exact lv_icmp_ne hx hb hd ht (fun h => kt r (by rw [if_neg h] at hr; exact hr) ok H locs ls hP hS hl) (fun h => kf r (by rw [if_pos h] at hr; exact hr) ok H locs ls hP hS hl)
theorem qr_if_lt {x : Int32} {a b : Option ρ} {off : Int} {t n : Nat} (hd : decode cc pc = .ok (.ifCond .lt off, 3)) (ht : (pc : Int) + off = (t : Int)) (hn : pc + 3 = n) (kt : VVx cx sx G L X own cc nL ret lev emb t lv st S a) (kf : VVx cx sx G L X own cc nL ret lev emb n lv st S b) : VVx cx sx G L X own cc nL ret lev emb pc lv (.int x :: st) S (if x < 0 then a else b) := by
  subst hn
  intro r hr ok H locs ls hP hS hl
  obtain ⟨hx, hb, hml, hown, hts⟩ := ok.1
  exact lv_if_lt hx hb hd ht (fun h => kt r (by rw [if_pos h] at hr; exact hr) ok H locs ls hP hS hl) (fun h => kf r (by rw [if_neg h] at hr; exact hr) ok H locs ls hP hS hl)
theorem qr_icmp_lt {x y : Int32} {a b : Option ρ} {off : Int} {t n : Nat} (hd : decode cc pc = .ok (.if_icmp .lt off, 3)) (ht : (pc : Int) + off = (t : Int)) (hn : pc + 3 = n) (kt : VVx cx sx G L X own cc nL ret lev emb t lv st S a) (kf : VVx cx sx G L X own cc nL ret lev emb n lv st S b) : VVx cx sx G L X own cc nL ret lev emb pc lv (.int y :: .int x :: st) S (if x < y then a else b) := by
  subst hn
  intro r hr ok H locs ls hP hS hl
  obtain ⟨hx, hb, hml, hown, hts⟩ := ok.1
  exact lv_icmp_lt hx hb hd ht (fun h => kt r (by rw [if_pos h] at hr; exact hr) ok H locs ls hP hS hl) (fun h => kf r (by rw [if_neg h] at hr; exact hr) ok H locs ls hP hS hl)
theorem qr_if_ge {x : Int32} {a b : Option ρ} {off : Int} {t n : Nat} (hd : decode cc pc = .ok (.ifCond .ge off, 3)) (ht : (pc : Int) + off = (t : Int)) (hn : pc + 3 = n) (kt : VVx cx sx G L X own cc nL ret lev emb t lv st S a) (kf : VVx cx sx G L X own cc nL ret lev emb n lv st S b) : VVx cx sx G L X own cc nL ret lev emb pc lv (.int x :: st) S (if 0 ≤ x then a else b) := by
  subst hn
  intro r hr ok H locs ls hP hS hl
  obtain ⟨hx, hb, hml, hown, hts⟩ := ok.1
  exact lv_if_ge hx hb hd ht (fun h => kt r (by rw [if_pos h] at hr; exact hr) ok H locs ls hP hS hl) (fun h => kf r (by rw [if_neg h] at hr; exact hr) ok H locs ls hP hS hl)
theorem qr_icmp_ge {x y : Int32} {a b : Option ρ} {off : Int} {t n : Nat} (hd : decode cc pc = .ok (.if_icmp .ge off, 3)) (ht : (pc : Int) + off = (t : Int)) (hn : pc + 3 = n) (kt : VVx cx sx G L X own cc nL ret lev emb t lv st S a) (kf : VVx cx sx G L X own cc nL ret lev emb n lv st S b) : VVx cx sx G L X own cc nL ret lev emb pc lv (.int y :: .int x :: st) S (if y ≤ x then a else b) := by
  subst hn
  intro r hr ok H locs ls hP hS hl
  obtain ⟨hx, hb, hml, hown, hts⟩ := ok.1
  exact lv_icmp_ge hx hb hd ht (fun h => kt r (by rw [if_pos h] at hr; exact hr) ok H locs ls hP hS hl) (fun h => kf r (by rw [if_neg h] at hr; exact hr) ok H locs ls hP hS hl)
theorem qr_if_gt {x : Int32} {a b : Option ρ} {off : Int} {t n : Nat} (hd : decode cc pc = .ok (.ifCond .gt off, 3)) (ht : (pc : Int) + off = (t : Int)) (hn : pc + 3 = n) (kt : VVx cx sx G L X own cc nL ret lev emb t lv st S a) (kf : VVx cx sx G L X own cc nL ret lev emb n lv st S b) : VVx cx sx G L X own cc nL ret lev emb pc lv (.int x :: st) S (if 0 < x then a else b) := by
  subst hn
  intro r hr ok H locs ls hP hS hl
  obtain ⟨hx, hb, hml, hown, hts⟩ := ok.1
  exact lv_if_gt hx hb hd ht (fun h => kt r (by rw [if_pos h] at hr; exact hr) ok H locs ls hP hS hl) (fun h => kf r (by rw [if_neg h] at hr; exact hr) ok H locs ls hP hS hl)
theorem qr_icmp_gt {x y : Int32} {a b : Option ρ} {off : Int} {t n : Nat} (hd : decode cc pc = .ok (.if_icmp .gt off, 3)) (ht : (pc : Int) + off = (t : Int)) (hn : pc + 3 = n) (kt : VVx cx sx G L X own cc nL ret lev emb t lv st S a) (kf : VVx cx sx G L X own cc nL ret lev emb n lv st S b) : VVx cx sx G L X own cc nL ret lev emb pc lv (.int y :: .int x :: st) S (if y < x then a else b) := by
  subst hn
  intro r hr ok H locs ls hP hS hl
  obtain ⟨hx, hb, hml, hown, hts⟩ := ok.1
  exact lv_icmp_gt hx hb hd ht (fun h => kt r (by rw [if_pos h] at hr; exact hr) ok H locs ls hP hS hl) (fun h => kf r (by rw [if_neg h] at hr; exact hr) ok H locs ls hP hS hl)
theorem qr_if_le {x : Int32} {a b : Option ρ} {off : Int} {t n : Nat} (hd : decode cc pc = .ok (.ifCond .le off, 3)) (ht : (pc : Int) + off = (t : Int)) (hn : pc + 3 = n) (kt : VVx cx sx G L X own cc nL ret lev emb t lv st S a) (kf : VVx cx sx G L X own cc nL ret lev emb n lv st S b) : VVx cx sx G L X own cc nL ret lev emb pc lv (.int x :: st) S (if x ≤ 0 then a else b) := by
  subst hn
  intro r hr ok H locs ls hP hS hl
  obtain ⟨hx, hb, hml, hown, hts⟩ := ok.1
  exact lv_if_le hx hb hd ht (fun h => kt r (by rw [if_pos h] at hr; exact hr) ok H locs ls hP hS hl) (fun h => kf r (by rw [if_neg h] at hr; exact hr) ok H locs ls hP hS hl)
theorem qr_icmp_le {x y : Int32} {a b : Option ρ} {off : Int} {t n : Nat} (hd : decode cc pc = .ok (.if_icmp .le off, 3)) (ht : (pc : Int) + off = (t : Int)) (hn : pc + 3 = n) (kt : VVx cx sx G L X own cc nL ret lev emb t lv st S a) (kf : VVx cx sx G L X own cc nL ret lev emb n lv st S b) : VVx cx sx G L X own cc nL ret lev emb pc lv (.int y :: .int x :: st) S (if x ≤ y then a else b) := by
  subst hn
  intro r hr ok H locs ls hP hS hl
  obtain ⟨hx, hb, hml, hown, hts⟩ := ok.1
  exact lv_icmp_le hx hb hd ht (fun h => kt r (by rw [if_pos h] at hr; exact hr) ok H locs ls hP hS hl) (fun h => kf r (by rw [if_neg h] at hr; exact hr) ok H locs ls hP hS hl)
theorem qr_iret {x : Int32} {z : ρ} (hd : decode cc pc = .ok (.ireturn, 1)) (hrt : ret = some .int) (he : emb z = (S, some (.int x))) : VVx cx sx G L X own cc nL ret lev emb pc lv [.int x] S (some z) := by
  intro r hr ok H locs ls hP hS hl
  cases hr
  obtain ⟨hx, hb, hml, hown, hts⟩ := ok.1
  rw [he]
  exact W.iret hx hb (by rw [ok.2.1, hrt]) (fun t ht hW => ⟨rfl, by rw [ht]; exact hP, hS.F ht⟩) hS.2.2 hd ok.2.2.1
theorem qr_zret {x : Int32} {z : ρ} (hd : decode cc pc = .ok (.ireturn, 1)) (hrt : ret = some .boolean) (he : emb z = (S, some (.int x))) : VVx cx sx G L X own cc nL ret lev emb pc lv [.int x] S (qv_rz x (some z)) := by
  intro r hr ok H locs ls hP hS hl
  unfold qv_rz at hr
  split at hr
  · next h0 =>
    cases hr
    obtain ⟨hx, hb, hml, hown, hts⟩ := ok.1
    rw [he]
    refine W.zret hx hb (by rw [ok.2.1, hrt]) ?_ (fun t ht hW => ⟨rfl, by rw [ht]; exact hP, hS.F ht⟩) hS.2.2 hd ok.2.2.1
    rcases h0 with rfl | rfl <;> rfl
  · cases hr
theorem qr_zretc {x : Int32} {z : ρ} (hd : decode cc pc = .ok (.ireturn, 1)) (hrt : ret = some .boolean) (hx0 : narrow .boolean (.int x) = .int x) (he : emb z = (S, some (.int x))) : VVx cx sx G L X own cc nL ret lev emb pc lv [.int x] S (some z) := by
  intro r hr ok H locs ls hP hS hl
  cases hr
  obtain ⟨hx, hb, hml, hown, hts⟩ := ok.1
  rw [he]
  exact W.zret hx hb (by rw [ok.2.1, hrt]) hx0 (fun t ht hW => ⟨rfl, by rw [ht]; exact hP, hS.F ht⟩) hS.2.2 hd ok.2.2.1
theorem qr_lret {x : Int64} {z : ρ} (hd : decode cc pc = .ok (.lreturn, 1)) (hrt : ret = some .long) (he : emb z = (S, some (.long x))) : VVx cx sx G L X own cc nL ret lev emb pc lv [.long x] S (some z) := by
  intro r hr ok H locs ls hP hS hl
  cases hr
  obtain ⟨hx, hb, hml, hown, hts⟩ := ok.1
  rw [he]
  exact W.lret hx hb (by rw [ok.2.1, hrt]) (fun t ht hW => ⟨rfl, by rw [ht]; exact hP, hS.F ht⟩) hS.2.2 hd ok.2.2.1
theorem qr_vret {z : ρ} (hd : decode cc pc = .ok (.return_, 1)) (hrt : ret = none) (he : emb z = (S, none)) : VVx cx sx G L X own cc nL ret lev emb pc lv [] S (some z) := by
  intro r hr ok H locs ls hP hS hl
  cases hr
  obtain ⟨hx, hb, hml, hown, hts⟩ := ok.1
  rw [he]
  exact W.vret hx hb (by rw [ok.2.1, hrt]) (fun t ht hW => ⟨rfl, by rw [ht]; exact hP, hS.F ht⟩) hS.2.2 hd ok.2.2.1
theorem qr_none : VVx cx sx G L X own cc nL ret lev emb pc lv st S none := fun r hr => by cases hr
theorem qr_geti (q j : Nat) {ci : Nat} {T : u_T} {N idx : Nat} {fs : List (Option Nat)} {C : String} {n : Nat} (hd : decode cc pc = .ok (.getfield idx, 3)) (hn : pc + 3 = n) (hq : L[q]? = some (.inl (ci, fs))) (hc : vwCl[ci]? = some (C, T, N)) (hin : ∀ w ∈ u_ws C T N, w ∈ gw_tbl) (hk : j < N) (hw : Cond.fieldLink own idx (T j).1 (T j).2.1 (T j).2.2.1 ∈ gw_tbl) (hf : fs[j]? = some none) (k : VVx cx sx G L X own cc nL ret lev emb n lv (.int (S.1 q j) :: st) S o) : VVx cx sx G L X own cc nL ret lev emb pc lv (.ref (G.2.2.1 q) :: st) S o := by
  subst hn
  intro r hr ok H locs ls hP hS hl
  obtain ⟨hx, hb, hml, hown, hts⟩ := ok.1
  refine va_get hx hb hts hin hown ok.2.2.2.1 hP q (qv_at_o hq) hc j hk (hts _ hw) (fun _ h => h) (v := .int (S.1 q j)) ?_ hd (k r hr ok H locs ls hP hS hl)
  rw [List.getElem?_mapIdx, hf]
  rfl
theorem qr_geta (q j b : Nat) {ci : Nat} {T : u_T} {N idx : Nat} {fs : List (Option Nat)} {C : String} {n : Nat} (hd : decode cc pc = .ok (.getfield idx, 3)) (hn : pc + 3 = n) (hq : L[q]? = some (.inl (ci, fs))) (hc : vwCl[ci]? = some (C, T, N)) (hin : ∀ w ∈ u_ws C T N, w ∈ gw_tbl) (hk : j < N) (hw : Cond.fieldLink own idx (T j).1 (T j).2.1 (T j).2.2.1 ∈ gw_tbl) (hf : fs[j]? = some (some b)) (k : VVx cx sx G L X own cc nL ret lev emb n lv (.ref (G.2.2.1 b) :: st) S o) : VVx cx sx G L X own cc nL ret lev emb pc lv (.ref (G.2.2.1 q) :: st) S o := by
  subst hn
  intro r hr ok H locs ls hP hS hl
  obtain ⟨hx, hb, hml, hown, hts⟩ := ok.1
  refine va_get hx hb hts hin hown ok.2.2.2.1 hP q (qv_at_o hq) hc j hk (hts _ hw) (fun _ h => h) (v := .ref (G.2.2.1 b)) ?_ hd (k r hr ok H locs ls hP hS hl)
  rw [List.getElem?_mapIdx, hf]
  rfl
theorem qr_puti (q j : Nat) {ci : Nat} {T : u_T} {N idx : Nat} {fs : List (Option Nat)} {C : String} {ty0 : Nat → FieldType} {x : Int32} {n : Nat} {ko : qv_St → Option ρ} (hd : decode cc pc = .ok (.putfield idx, 3)) (hn : pc + 3 = n) (hq : L[q]? = some (.inl (ci, fs))) (hc : vwCl[ci]? = some (C, T, N)) (hin : ∀ w ∈ u_ws C T N, w ∈ gw_tbl) (hk : j < N) (hw : Cond.fieldLink own idx (T j).1 (T j).2.1 (T j).2.2.1 ∈ gw_tbl) (hf : fs[j]? = some none) (hty : ∀ k, k < N → parseFieldDescriptor (T k).2.2.1 = some (ty0 k)) (hnm : ∀ a, a < N → ∀ b, b < N → a ≠ b → (T a).2.1 ≠ (T b).2.1) (hfin : (T j).2.2.2 = false) (hi : ty0 j = .int) (k : ∀ S : qv_St, VVx cx sx G L X own cc nL ret lev emb n lv st S (ko S)) : VVx cx sx G L X own cc nL ret lev emb pc lv (.int x :: .ref (G.2.2.1 q) :: st) S (qv_b (qv_si S q j x) ko) := by
  subst hn
  intro r hr ok H locs ls hP hS hl
  obtain ⟨hx, hb, hml, hown, hts⟩ := ok.1
  refine va_put hx hb hts hin ty0 hty hnm hown ok.2.2.2.1 hP (qv_D ok.2.2.2.2.1) hS q (qv_at_o hq) hc j hk (hts _ hw) (fun _ h => h) hfin (ty := ty0 j) (v := .int x) (hty j hk) (by rw [hi]; rfl) (by rw [hi]; rfl) ?_ hd (fun H1 locs1 hP1 hD1 hS1 => ?_)
  · rw [List.length_mapIdx]; exact (List.getElem?_eq_some_iff.mp hf).1
  · rw [qv_set_f hq hf] at hP1
    exact k (qv_si S q j x) r hr ok H1 locs1 ls hP1 hS1 hl
theorem qr_putz (q j : Nat) {ci : Nat} {T : u_T} {N idx : Nat} {fs : List (Option Nat)} {C : String} {ty0 : Nat → FieldType} {x : Int32} {n : Nat} {ko : qv_St → Option ρ} (hd : decode cc pc = .ok (.putfield idx, 3)) (hn : pc + 3 = n) (hq : L[q]? = some (.inl (ci, fs))) (hc : vwCl[ci]? = some (C, T, N)) (hin : ∀ w ∈ u_ws C T N, w ∈ gw_tbl) (hk : j < N) (hw : Cond.fieldLink own idx (T j).1 (T j).2.1 (T j).2.2.1 ∈ gw_tbl) (hf : fs[j]? = some none) (hty : ∀ k, k < N → parseFieldDescriptor (T k).2.2.1 = some (ty0 k)) (hnm : ∀ a, a < N → ∀ b, b < N → a ≠ b → (T a).2.1 ≠ (T b).2.1) (hfin : (T j).2.2.2 = false) (hi : ty0 j = .boolean) (hx0 : x = 0 ∨ x = 1) (k : ∀ S : qv_St, VVx cx sx G L X own cc nL ret lev emb n lv st S (ko S)) : VVx cx sx G L X own cc nL ret lev emb pc lv (.int x :: .ref (G.2.2.1 q) :: st) S (qv_b (qv_si S q j x) ko) := by
  subst hn
  intro r hr ok H locs ls hP hS hl
  obtain ⟨hx, hb, hml, hown, hts⟩ := ok.1
  refine va_put hx hb hts hin ty0 hty hnm hown ok.2.2.2.1 hP (qv_D ok.2.2.2.2.1) hS q (qv_at_o hq) hc j hk (hts _ hw) (fun _ h => h) hfin (ty := ty0 j) (v := .int x) (hty j hk) (by rw [hi]; rcases hx0 with rfl | rfl <;> rfl) (by rw [hi]; rcases hx0 with rfl | rfl <;> rfl) ?_ hd (fun H1 locs1 hP1 hD1 hS1 => ?_)
  · rw [List.length_mapIdx]; exact (List.getElem?_eq_some_iff.mp hf).1
  · rw [qv_set_f hq hf] at hP1
    exact k (qv_si S q j x) r hr ok H1 locs1 ls hP1 hS1 hl
theorem qr_iald (q len : Nat) {rs : List Nat} {i : Int32} {n : Nat} (hd : decode cc pc = .ok (.iaload, 1)) (hn : pc + 1 = n) (hq : L[q]? = some (.inr (0, len, rs))) (k : VVx cx sx G L X own cc nL ret lev emb n lv (.int (S.1 q i.toNatClampNeg) :: st) S o) : VVx cx sx G L X own cc nL ret lev emb pc lv (.int i :: .ref (G.2.2.1 q) :: st) S (qv_ck i len o) := by
  subst hn
  intro r hr ok H locs ls hP hS hl
  obtain ⟨hx, hb, hml, hown, hts⟩ := ok.1
  unfold qv_ck at hr
  split at hr
  · next h0 => exact va_iald hx hb ok.2.2.2.1 hP q 0 (qv_at_a hq (by decide)) rfl (qv_in_iff.mp h0) hd (k r hr ok H locs ls hP hS hl)
  · cases hr
theorem qr_bald (q len : Nat) {rs : List Nat} {i : Int32} {n : Nat} (hd : decode cc pc = .ok (.baload, 1)) (hn : pc + 1 = n) (hq : L[q]? = some (.inr (1, len, rs))) (k : VVx cx sx G L X own cc nL ret lev emb n lv (.int (S.1 q i.toNatClampNeg) :: st) S o) : VVx cx sx G L X own cc nL ret lev emb pc lv (.int i :: .ref (G.2.2.1 q) :: st) S (qv_ck i len o) := by
  subst hn
  intro r hr ok H locs ls hP hS hl
  obtain ⟨hx, hb, hml, hown, hts⟩ := ok.1
  unfold qv_ck at hr
  split at hr
  · next h0 => exact va_bald hx hb ok.2.2.2.1 hP q 1 (qv_at_a hq (by decide)) rfl (qv_in_iff.mp h0) hd (k r hr ok H locs ls hP hS hl)
  · cases hr
theorem qr_zald (q len : Nat) {rs : List Nat} {i : Int32} {n : Nat} (hd : decode cc pc = .ok (.baload, 1)) (hn : pc + 1 = n) (hq : L[q]? = some (.inr (2, len, rs))) (k : VVx cx sx G L X own cc nL ret lev emb n lv (.int (S.1 q i.toNatClampNeg) :: st) S o) : VVx cx sx G L X own cc nL ret lev emb pc lv (.int i :: .ref (G.2.2.1 q) :: st) S (qv_ck i len o) := by
  subst hn
  intro r hr ok H locs ls hP hS hl
  obtain ⟨hx, hb, hml, hown, hts⟩ := ok.1
  unfold qv_ck at hr
  split at hr
  · next h0 => exact va_zald hx hb ok.2.2.2.1 hP q 2 (qv_at_a hq (by decide)) rfl (qv_in_iff.mp h0) hd (k r hr ok H locs ls hP hS hl)
  · cases hr
theorem qr_lald (q len : Nat) {rs : List Nat} {i : Int32} {n : Nat} (hd : decode cc pc = .ok (.laload, 1)) (hn : pc + 1 = n) (hq : L[q]? = some (.inr (3, len, rs))) (k : VVx cx sx G L X own cc nL ret lev emb n lv (.long (S.2 q i.toNatClampNeg) :: st) S o) : VVx cx sx G L X own cc nL ret lev emb pc lv (.int i :: .ref (G.2.2.1 q) :: st) S (qv_ck i len o) := by
  subst hn
  intro r hr ok H locs ls hP hS hl
  obtain ⟨hx, hb, hml, hown, hts⟩ := ok.1
  unfold qv_ck at hr
  split at hr
  · next h0 => exact va_lald hx hb ok.2.2.2.1 hP q 3 (qv_at_l hq) rfl (qv_in_iff.mp h0) hd (k r hr ok H locs ls hP hS hl)
  · cases hr
theorem qr_aald (q len : Nat) {rs : List Nat} {i : Int32} {n : Nat} {ko : Nat → Option ρ} (hd : decode cc pc = .ok (.aaload, 1)) (hn : pc + 1 = n) (hq : L[q]? = some (.inr (4, len, rs))) (k : ∀ b : Nat, rs[i.toNatClampNeg]? = some b → VVx cx sx G L X own cc nL ret lev emb n lv (.ref (G.2.2.1 b) :: st) S (ko b)) : VVx cx sx G L X own cc nL ret lev emb pc lv (.int i :: .ref (G.2.2.1 q) :: st) S (qv_ck i len ((rs[i.toNatClampNeg]?).bind ko)) := by
  subst hn
  intro r hr ok H locs ls hP hS hl
  obtain ⟨hx, hb, hml, hown, hts⟩ := ok.1
  unfold qv_ck at hr
  split at hr
  · next h0 =>
    cases hb2 : rs[i.toNatClampNeg]? with
    | none => rw [hb2] at hr; cases hr
    | some b =>
      rw [hb2] at hr
      refine va_aldq hx hb ok.2.2.2.1 hP q 4 (qv_at_r hq) rfl (qv_in_iff.mp h0) hd ?_
      simp only [hb2, Option.map]
      exact k b hb2 r hr ok H locs ls hP hS hl
  · cases hr
theorem qr_iast (q len : Nat) {rs : List Nat} {i x : Int32} {n : Nat} {ko : qv_St → Option ρ} (hd : decode cc pc = .ok (.iastore, 1)) (hn : pc + 1 = n) (hq : L[q]? = some (.inr (0, len, rs))) (k : ∀ S : qv_St, VVx cx sx G L X own cc nL ret lev emb n lv st S (ko S)) : VVx cx sx G L X own cc nL ret lev emb pc lv (.int x :: .int i :: .ref (G.2.2.1 q) :: st) S (qv_ck i len (qv_b (qv_si S q i.toNatClampNeg x) ko)) := by
  subst hn
  intro r hr ok H locs ls hP hS hl
  obtain ⟨hx, hb, hml, hown, hts⟩ := ok.1
  unfold qv_ck at hr
  split at hr
  · next h0 =>
    refine va_iast hx hb ok.2.2.2.1 hP (qv_D ok.2.2.2.2.1) hS q 0 (qv_at_a hq (by decide)) rfl (qv_in_iff.mp h0) hd (fun H1 locs1 hP1 hD1 hS1 => ?_)
    rw [qv_set_a hq (by decide)] at hP1
    exact k _ r hr ok H1 locs1 ls hP1 hS1 hl
  · cases hr
theorem qr_bast (q len : Nat) {rs : List Nat} {i x : Int32} {n : Nat} {ko : qv_St → Option ρ} (hd : decode cc pc = .ok (.bastore, 1)) (hn : pc + 1 = n) (hq : L[q]? = some (.inr (1, len, rs))) (k : ∀ S : qv_St, VVx cx sx G L X own cc nL ret lev emb n lv st S (ko S)) : VVx cx sx G L X own cc nL ret lev emb pc lv (.int x :: .int i :: .ref (G.2.2.1 q) :: st) S (qv_ck i len (qv_b (qv_si S q i.toNatClampNeg (vp_nar .byte x)) ko)) := by
  subst hn
  intro r hr ok H locs ls hP hS hl
  obtain ⟨hx, hb, hml, hown, hts⟩ := ok.1
  unfold qv_ck at hr
  split at hr
  · next h0 =>
    refine va_bast hx hb ok.2.2.2.1 hP (qv_D ok.2.2.2.2.1) hS q 1 (qv_at_a hq (by decide)) rfl (qv_in_iff.mp h0) hd (fun H1 locs1 hP1 hD1 hS1 => ?_)
    rw [qv_set_a hq (by decide)] at hP1
    exact k _ r hr ok H1 locs1 ls hP1 hS1 hl
  · cases hr
theorem qr_zast (q len : Nat) {rs : List Nat} {i x : Int32} {n : Nat} {ko : qv_St → Option ρ} (hd : decode cc pc = .ok (.bastore, 1)) (hn : pc + 1 = n) (hq : L[q]? = some (.inr (2, len, rs))) (k : ∀ S : qv_St, VVx cx sx G L X own cc nL ret lev emb n lv st S (ko S)) : VVx cx sx G L X own cc nL ret lev emb pc lv (.int x :: .int i :: .ref (G.2.2.1 q) :: st) S (qv_ck i len (qv_b (qv_si S q i.toNatClampNeg (vp_nar .boolean x)) ko)) := by
  subst hn
  intro r hr ok H locs ls hP hS hl
  obtain ⟨hx, hb, hml, hown, hts⟩ := ok.1
  unfold qv_ck at hr
  split at hr
  · next h0 =>
    refine va_zast hx hb ok.2.2.2.1 hP (qv_D ok.2.2.2.2.1) hS q 2 (qv_at_a hq (by decide)) rfl (qv_in_iff.mp h0) hd (fun H1 locs1 hP1 hD1 hS1 => ?_)
    rw [qv_set_a hq (by decide)] at hP1
    exact k _ r hr ok H1 locs1 ls hP1 hS1 hl
  · cases hr
theorem qr_last (q len : Nat) {rs : List Nat} {i : Int32} {x : Int64} {n : Nat} {ko : qv_St → Option ρ} (hd : decode cc pc = .ok (.lastore, 1)) (hn : pc + 1 = n) (hq : L[q]? = some (.inr (3, len, rs))) (k : ∀ S : qv_St, VVx cx sx G L X own cc nL ret lev emb n lv st S (ko S)) : VVx cx sx G L X own cc nL ret lev emb pc lv (.long x :: .int i :: .ref (G.2.2.1 q) :: st) S (qv_ck i len (qv_b (qv_sl S q i.toNatClampNeg x) ko)) := by
  subst hn
  intro r hr ok H locs ls hP hS hl
  obtain ⟨hx, hb, hml, hown, hts⟩ := ok.1
  unfold qv_ck at hr
  split at hr
  · next h0 =>
    refine va_last hx hb ok.2.2.2.1 hP (qv_D ok.2.2.2.2.1) hS q 3 (qv_at_l hq) rfl (qv_in_iff.mp h0) hd (fun H1 locs1 hP1 hD1 hS1 => ?_)
    rw [qv_set_l hq] at hP1
    exact k _ r hr ok H1 locs1 ls hP1 hS1 hl
  · cases hr
theorem qr_alen (q len : Nat) {rs : List Nat} {n : Nat} (v : Int32) (hd : decode cc pc = .ok (.arraylength, 1)) (hn : pc + 1 = n) (hq : L[q]? = some (.inr (0, len, rs))) (hv : Int32.ofNat len = v) (k : VVx cx sx G L X own cc nL ret lev emb n lv (.int v :: st) S o) : VVx cx sx G L X own cc nL ret lev emb pc lv (.ref (G.2.2.1 q) :: st) S o := by
  subst hn
  intro r hr ok H locs ls hP hS hl
  obtain ⟨hx, hb, hml, hown, hts⟩ := ok.1
  exact va_alen hx hb ok.2.2.2.1 hP q 0 (qv_at_a hq (by decide)) rfl hv hd (k r hr ok H locs ls hP hS hl)
theorem qr_alenb (q len : Nat) {rs : List Nat} {n : Nat} (v : Int32) (hd : decode cc pc = .ok (.arraylength, 1)) (hn : pc + 1 = n) (hq : L[q]? = some (.inr (1, len, rs))) (hv : Int32.ofNat len = v) (k : VVx cx sx G L X own cc nL ret lev emb n lv (.int v :: st) S o) : VVx cx sx G L X own cc nL ret lev emb pc lv (.ref (G.2.2.1 q) :: st) S o := by
  subst hn
  intro r hr ok H locs ls hP hS hl
  obtain ⟨hx, hb, hml, hown, hts⟩ := ok.1
  exact va_alen hx hb ok.2.2.2.1 hP q 1 (qv_at_a hq (by decide)) rfl hv hd (k r hr ok H locs ls hP hS hl)
theorem qr_alenz (q len : Nat) {rs : List Nat} {n : Nat} (v : Int32) (hd : decode cc pc = .ok (.arraylength, 1)) (hn : pc + 1 = n) (hq : L[q]? = some (.inr (2, len, rs))) (hv : Int32.ofNat len = v) (k : VVx cx sx G L X own cc nL ret lev emb n lv (.int v :: st) S o) : VVx cx sx G L X own cc nL ret lev emb pc lv (.ref (G.2.2.1 q) :: st) S o := by
  subst hn
  intro r hr ok H locs ls hP hS hl
  obtain ⟨hx, hb, hml, hown, hts⟩ := ok.1
  exact va_alen hx hb ok.2.2.2.1 hP q 2 (qv_at_a hq (by decide)) rfl hv hd (k r hr ok H locs ls hP hS hl)
theorem qr_alenl (q len : Nat) {rs : List Nat} {n : Nat} (v : Int32) (hd : decode cc pc = .ok (.arraylength, 1)) (hn : pc + 1 = n) (hq : L[q]? = some (.inr (3, len, rs))) (hv : Int32.ofNat len = v) (k : VVx cx sx G L X own cc nL ret lev emb n lv (.int v :: st) S o) : VVx cx sx G L X own cc nL ret lev emb pc lv (.ref (G.2.2.1 q) :: st) S o := by
  subst hn
  intro r hr ok H locs ls hP hS hl
  obtain ⟨hx, hb, hml, hown, hts⟩ := ok.1
  exact va_alen hx hb ok.2.2.2.1 hP q 3 (qv_at_l hq) rfl hv hd (k r hr ok H locs ls hP hS hl)
end QVR
end
section
def qv_N : Nat := 5000
/-! contracts, calls, loops, joins, switches -/
def qv_Pc (G : qv_GT) (L : List qv_Lc) (S : qv_St) (av : List Value) : Array Value → State → Prop := va_Pc av (fun U => qv_inj G.2.2.1 L ∧ va_P G.2.1 vwCl (qv_wd G.2.2.1 G.2.2.2 L S) U.heap ∧ va_K G.2.1 vwCl (qv_tys G.2.2.2) U ∧ qv_ro G L U)
def qv_ws (y : MethodName) (b : ByteArray) (maxL : Nat) (ret : Option FieldType) : List Cond := .code y b maxL ret :: gw_tbl
def Cn (G : qv_GT) (L : List qv_Lc) (y : MethodName) (b : ByteArray) (maxL : Nat) (ret : Option FieldType) (lev : Nat) (av : List Value) (S : qv_St) (r : qv_St × Option Value) : Prop := Met G.1 y (qv_ws y b maxL ret) (qv_room lev) (qv_Pc G L S av) (qv_Q G L r) 0 0 (qv_A G.2.2.1 L)
theorem cn_of {G : qv_GT} {L : List qv_Lc} {y : MethodName} {b : ByteArray} {maxL : Nat} {ret : Option FieldType} {lev : Nat} {av : List Value} {S : qv_St} {ρ : Type} {emb : ρ → qv_St × Option Value} {o : Option ρ} {lv : List (Nat × Value)} {own : String} (ho : y.cls = own) (hy : plainName y.cls = true) (hlen : (lg_sl av).length ≤ maxL) (hlv : lv_args 0 av = lv) (vv : ∀ X : qv_XT, VV G L X own b maxL ret lev emb 0 lv [] S o) : ∀ r : ρ, o = some r → Cn G L y b maxL ret lev av S (emb r) := by
  intro r hr
  subst hlv
  subst ho
  refine Met.ofW (cc := b) (maxL := maxL) (ret := ret) hy rfl ?_
  intro p e s m args below meth c s₁ B hml hv
  obtain ⟨rfl, hinj, hP, hK, hro⟩ := hv
  have hts := atoms_spec (ws := qv_ws y b maxL ret) B.pre
  have hown : s.vm.findClass y.cls = some m.cls := findClass_of_methodNamed B.named
  have hl := lv_entry av hlen
  rw [lg_entry_eq]
  exact vv (p, e, s, m, av.toArray, below, meth, c) r hr ⟨⟨B.exec, B.bytes, hml, hown, fun w h => hts w (List.mem_cons_of_mem _ h)⟩, B.returns, B.notSynchronized, hK, hinj, hro⟩ s.heap [] _ hP va_S.rf hl
def qv_cv (own : String) (idx : Nat) (y : MethodName) (b : ByteArray) (maxL : Nat) (ret : Option FieldType) (n : Nat) : Prop := (Cond.methodLink own idx y ∈ gw_tbl ∧ Cond.instanceMethod y ∈ gw_tbl ∧ Cond.selects y.cls y y ∈ gw_tbl ∧ Cond.initialized y.cls ∈ gw_tbl ∧ Cond.code y b maxL ret ∈ gw_tbl) ∧ (y.cls ≠ "java/lang/invoke/MethodHandle" ∧ y.cls ≠ "java/lang/invoke/VarHandle" ∧ (parseMethodDescriptor y.desc).map (fun d => d.parameters.length) = some n)
def qv_cs (own : String) (idx : Nat) (y : MethodName) (b : ByteArray) (maxL : Nat) (ret : Option FieldType) (n : Nat) : Prop := (Cond.methodLink own idx y ∈ gw_tbl ∧ Cond.static y ∈ gw_tbl ∧ Cond.initialized y.cls ∈ gw_tbl ∧ Cond.code y b maxL ret ∈ gw_tbl) ∧ (y.cls ≠ "java/lang/invoke/MethodHandle" ∧ y.cls ≠ "java/lang/invoke/VarHandle" ∧ (parseMethodDescriptor y.desc).map (fun d => d.parameters.length) = some n)
theorem gw_ws {y : MethodName} {b : ByteArray} {maxL : Nat} {ret : Option FieldType} (h : Cond.code y b maxL ret ∈ gw_tbl) : GoodIn gw_tbl (qv_ws y b maxL ret) := by
  intro w hw
  rcases List.mem_cons.mp hw with rfl | hw
  · exact gw_good _ h
  · exact gw_good w hw
theorem qv_blind {G : qv_GT} {L : List qv_Lc} {S : qv_St} {av : List Value} : FrameBlind (qv_Pc G L S av) := fun a U g mk q => by
  obtain ⟨q0, q1, q2, q3, r1, r2, r3, r4, r5, r6⟩ := q
  exact ⟨q0, q1, q2, va_K.moved (u := U) (U := U.calling g mk a) (Vm.Alike.refl U.vm) q3, vk_S.moved (u := U) (U := U.calling g mk a) (Vm.Alike.refl U.vm) r1, vk_R.same (u := U) (U := U.calling g mk a) rfl r2, vk_R.same (u := U) (U := U.calling g mk a) rfl r3, va_Z.moved (u := U) (U := U.calling g mk a) (Vm.Alike.refl U.vm) r4, va_Z.moved (u := U) (U := U.calling g mk a) (Vm.Alike.refl U.vm) r5, va_Nw.same rfl (u := U) (U := U.calling g mk a) rfl r6⟩
section QVC
variable {cx sx : Nat} {G : qv_GT} {L : List qv_Lc} {X : qv_XT} {own : String} {cc : ByteArray} {nL : Nat} {ret : Option FieldType} {lev : Nat} {ρ : Type} {emb : ρ → qv_St × Option Value} {pc : Nat} {lv : List (Nat × Value)} {st : List Value} {S : qv_St} {o : Option ρ}
theorem qv_after {p : Program} {l : Launch} {e : Env} {R : Room} {s : State} {m : MethodId} {args : Array Value} {below : List Frame} {meth : Method} {c : Code} {H : Heap} {locs : List Loc} {Q : State → Prop} {ls : Array Slot} {st0 : List Value} {a : Array Value} {r2 : qv_St × Option Value} (run : va_Run p l e R s m args below meth c H locs cx sx 0 0 (F0 m pc ls st0) st (qv_Q G L r2 a) (qv_A G.2.2.1 L)) (hS : va_S (qv_A G.2.2.1 L) s.heap H locs)
    (kk : ∀ (H1 : Heap) (locs1 : List Loc), va_P G.2.1 vwCl (qv_wd G.2.2.1 G.2.2.2 L r2.1) H1 → va_S (qv_A G.2.2.1 L) s.heap H1 locs1 → W p l e R s m args below meth c H1 locs1 cx sx Q (F0 m (pc + 3) ls (r2.2.toList ++ st))) : W p l e R s m args below meth c H locs cx sx Q (F0 m pc ls st0) := by
  intro T hT X
  obtain ⟨v, st₀, t, T', Lx, h0, X', hL, e1, e2, ⟨hv, hP', hz, hk⟩, stp⟩ := run T hT X
  cases hv
  rw [h0] at hz hk
  obtain ⟨t2, a1, b1⟩ := kk T'.heap (locs ++ Lx) (by rw [e1]; exact hP') ⟨Nat.le_trans hS.1 (by rw [e1]; exact hz), fun q h1 h2 => by rw [e1, hk q (Nat.lt_of_lt_of_le h1 hS.1) h2]; exact hS.2.1 q h1 h2, fun q hq => by
      rcases List.mem_append.mp hq with h | h
      · exact hS.2.2 q h
      · exact hL q h⟩ T' rfl X'
  exact ⟨t2, stp t2 a1, b1⟩
theorem qr_cv {y : MethodName} {b : ByteArray} {maxL : Nat} {ret2 : Option FieldType} {lev2 idx na n : Nat} {ρ2 : Type} {emb2 : ρ2 → qv_St × Option Value} {of : Option ρ2} {ko : ρ2 → Option ρ} {st0 : List Value} (q : Nat) (As : List Value) {ci : Nat} {fs : List (Option Nat)} {T : u_T} {N : Nat} (hd : decode cc pc = .ok (.invokevirtual idx, 3)) (hn : pc + 3 = n) (cv : qv_cv own idx y b maxL ret2 na) (hna : As.length = na) (hst : st0 = As.reverse ++ .ref (G.2.2.1 q) :: st) (hsum : (st.map fun v => v.category).sum ≤ 8) (hlev : Nat.ble (lev2 + 1) lev = true) (hmax : Nat.ble maxL 45 = true) (hq : L[q]? = some (.inl (ci, fs))) (hcl : vwCl[ci]? = some (y.cls, T, N)) (hc : ∀ r2 : ρ2, of = some r2 → Cn G L y b maxL ret2 lev2 (.ref (G.2.2.1 q) :: As) S (emb2 r2))
    (k : ∀ r2 : ρ2, VVx cx sx G L X own cc nL ret lev emb n lv ((emb2 r2).2.toList ++ st) (emb2 r2).1 (ko r2)) : VVx cx sx G L X own cc nL ret lev emb pc lv st0 S (of.bind ko) := by
  subst hn
  subst hst
  intro r hr ok H locs ls hP hS hl
  cases ho : of with
  | none => rw [ho] at hr; cases hr
  | some r2 =>
    rw [ho] at hr
    obtain ⟨hx, hb, hml, hown, hts⟩ := ok.1
    have h1 := Nat.le_of_ble_eq_true hlev
    have h2 := Nat.le_of_ble_eq_true hmax
    refine qv_after (va_runV (As := As) (rest := st) ⟨hx, hb, hml, hown, hts⟩ (hc r2 ho) (C := y.cls) ⟨callB_of na hts (gw_ws cv.1.2.2.2.2) rfl rfl rfl (hts _ cv.1.2.2.2.1) (hts _ cv.1.1) cv.2 ⟨h1, by simp only [qv_room, qv_roomx]; omega⟩, hts _ cv.1.2.1, hts _ cv.1.2.2.1⟩ ⟨qv_blind, va_recv ok.2.2.2.1 hP hcl (qv_at_o hq), fun U hU hW => ⟨rfl, ok.2.2.2.2.1, by rw [hU]; exact hP, va_K.moved hW.alike ok.2.2.2.1, qv_ro_go ok.2.2.2.2.2 hS hU hW⟩⟩ rfl hna hl.1 rfl (lv_room hsum) hd ⟨Nat.le_refl _, Nat.le_refl _⟩) hS (fun H1 locs1 hP1 hS1 => ?_)
    exact k r2 r hr ok H1 locs1 ls hP1 hS1 hl
theorem qr_cs {y : MethodName} {b : ByteArray} {maxL : Nat} {ret2 : Option FieldType} {lev2 idx na n : Nat} {ρ2 : Type} {emb2 : ρ2 → qv_St × Option Value} {of : Option ρ2} {ko : ρ2 → Option ρ} {st0 : List Value} (As : List Value) (hd : decode cc pc = .ok (.invokestatic idx, 3)) (hn : pc + 3 = n) (cv : qv_cs own idx y b maxL ret2 na) (hna : As.length = na) (hst : st0 = As.reverse ++ st) (hsum : (st.map fun v => v.category).sum ≤ 8) (hlev : Nat.ble (lev2 + 1) lev = true) (hmax : Nat.ble maxL 45 = true) (hc : ∀ r2 : ρ2, of = some r2 → Cn G L y b maxL ret2 lev2 As S (emb2 r2))
    (k : ∀ r2 : ρ2, VVx cx sx G L X own cc nL ret lev emb n lv ((emb2 r2).2.toList ++ st) (emb2 r2).1 (ko r2)) : VVx cx sx G L X own cc nL ret lev emb pc lv st0 S (of.bind ko) := by
  subst hn
  subst hst
  intro r hr ok H locs ls hP hS hl
  cases ho : of with
  | none => rw [ho] at hr; cases hr
  | some r2 =>
    rw [ho] at hr
    obtain ⟨hx, hb, hml, hown, hts⟩ := ok.1
    have h1 := Nat.le_of_ble_eq_true hlev
    have h2 := Nat.le_of_ble_eq_true hmax
    refine qv_after (va_runS (As := As) (rest := st) ⟨hx, hb, hml, hown, hts⟩ (hc r2 ho) ⟨callB_of na hts (gw_ws cv.1.2.2.2) rfl rfl rfl (hts _ cv.1.2.2.1) (hts _ cv.1.1) cv.2 ⟨h1, by simp only [qv_room, qv_roomx]; omega⟩, hts _ cv.1.2.1⟩ ⟨qv_blind, fun U hU hW => ⟨rfl, ok.2.2.2.2.1, by rw [hU]; exact hP, va_K.moved hW.alike ok.2.2.2.1, qv_ro_go ok.2.2.2.2.2 hS hU hW⟩⟩ rfl hna hl.1 rfl (lv_room hsum) hd ⟨Nat.le_refl _, Nat.le_refl _⟩) hS (fun H1 locs1 hP1 hS1 => ?_)
    exact k r2 r hr ok H1 locs1 ls hP1 hS1 hl
theorem qr_if {c : Prop} {dc : Decidable c} {a b : Option ρ} (ka : c → VVx cx sx G L X own cc nL ret lev emb pc lv st S a) (kb : ¬ c → VVx cx sx G L X own cc nL ret lev emb pc lv st S b) : VVx cx sx G L X own cc nL ret lev emb pc lv st S (@ite _ c dc a b) := by
  by_cases h : c
  · rw [if_pos h]; exact ka h
  · rw [if_neg h]; exact kb h
theorem qr_j {α : Type} {K : α} {b : α → Option ρ} (P : α → Prop) (hK : P K) (hb : ∀ K2 : α, P K2 → VVx cx sx G L X own cc nL ret lev emb pc lv st S (b K2)) : VVx cx sx G L X own cc nL ret lev emb pc lv st S (qv_j K b) := hb K hK
end QVC
abbrev qe_i (S : qv_St) : Int32 → qv_St × Option Value := fun x => (S, some (.int x))
abbrev qe_l (S : qv_St) : Int64 → qv_St × Option Value := fun x => (S, some (.long x))
abbrev qe_u : qv_St → qv_St × Option Value := fun S => (S, none)
abbrev qe_p (S : qv_St) : Unit → qv_St × Option Value := fun _ => (S, none)
abbrev qe_m : qv_St × Int32 → qv_St × Option Value := fun z => (z.1, some (.int z.2))
section QVD
variable {cx sx : Nat} {G : qv_GT} {L : List qv_Lc} {X : qv_XT} {own : String} {cc : ByteArray} {nL : Nat} {ret : Option FieldType} {lev : Nat} {ρ : Type} {emb : ρ → qv_St × Option Value} {pc : Nat} {lv : List (Nat × Value)} {st : List Value} {S : qv_St} {o : Option ρ}
variable {y : MethodName} {b : ByteArray} {maxL : Nat} {ret2 : Option FieldType} {lev2 idx na n : Nat} {st0 : List Value}
theorem qr_cvi {of : Option Int32} {ko : Int32 → Option ρ} (q : Nat) (As : List Value) {ci : Nat} {fs : List (Option Nat)} {T : u_T} {N : Nat} (hd : decode cc pc = .ok (.invokevirtual idx, 3)) (hn : pc + 3 = n) (cv : qv_cv own idx y b maxL ret2 na) (hna : As.length = na) (hst : st0 = As.reverse ++ .ref (G.2.2.1 q) :: st) (hsum : (st.map fun v => v.category).sum ≤ 8) (hlev : Nat.ble (lev2 + 1) lev = true) (hmax : Nat.ble maxL 45 = true) (hq : L[q]? = some (.inl (ci, fs))) (hcl : vwCl[ci]? = some (y.cls, T, N)) (hc : ∀ r2, of = some r2 → Cn G L y b maxL ret2 lev2 (.ref (G.2.2.1 q) :: As) S (qe_i S r2)) (k : ∀ x : Int32, VVx cx sx G L X own cc nL ret lev emb n lv (.int x :: st) S (ko x)) : VVx cx sx G L X own cc nL ret lev emb pc lv st0 S (of.bind ko) := qr_cv q As hd hn cv hna hst hsum hlev hmax hq hcl hc (fun z => k z)
theorem qr_csi {of : Option Int32} {ko : Int32 → Option ρ} (As : List Value) (hd : decode cc pc = .ok (.invokestatic idx, 3)) (hn : pc + 3 = n) (cv : qv_cs own idx y b maxL ret2 na) (hna : As.length = na) (hst : st0 = As.reverse ++ st) (hsum : (st.map fun v => v.category).sum ≤ 8) (hlev : Nat.ble (lev2 + 1) lev = true) (hmax : Nat.ble maxL 45 = true) (hc : ∀ r2, of = some r2 → Cn G L y b maxL ret2 lev2 As S (qe_i S r2)) (k : ∀ x : Int32, VVx cx sx G L X own cc nL ret lev emb n lv (.int x :: st) S (ko x)) : VVx cx sx G L X own cc nL ret lev emb pc lv st0 S (of.bind ko) := qr_cs As hd hn cv hna hst hsum hlev hmax hc (fun z => k z)
theorem qr_cvl {of : Option Int64} {ko : Int64 → Option ρ} (q : Nat) (As : List Value) {ci : Nat} {fs : List (Option Nat)} {T : u_T} {N : Nat} (hd : decode cc pc = .ok (.invokevirtual idx, 3)) (hn : pc + 3 = n) (cv : qv_cv own idx y b maxL ret2 na) (hna : As.length = na) (hst : st0 = As.reverse ++ .ref (G.2.2.1 q) :: st) (hsum : (st.map fun v => v.category).sum ≤ 8) (hlev : Nat.ble (lev2 + 1) lev = true) (hmax : Nat.ble maxL 45 = true) (hq : L[q]? = some (.inl (ci, fs))) (hcl : vwCl[ci]? = some (y.cls, T, N)) (hc : ∀ r2, of = some r2 → Cn G L y b maxL ret2 lev2 (.ref (G.2.2.1 q) :: As) S (qe_l S r2)) (k : ∀ x : Int64, VVx cx sx G L X own cc nL ret lev emb n lv (.long x :: st) S (ko x)) : VVx cx sx G L X own cc nL ret lev emb pc lv st0 S (of.bind ko) := qr_cv q As hd hn cv hna hst hsum hlev hmax hq hcl hc (fun z => k z)
theorem qr_csl {of : Option Int64} {ko : Int64 → Option ρ} (As : List Value) (hd : decode cc pc = .ok (.invokestatic idx, 3)) (hn : pc + 3 = n) (cv : qv_cs own idx y b maxL ret2 na) (hna : As.length = na) (hst : st0 = As.reverse ++ st) (hsum : (st.map fun v => v.category).sum ≤ 8) (hlev : Nat.ble (lev2 + 1) lev = true) (hmax : Nat.ble maxL 45 = true) (hc : ∀ r2, of = some r2 → Cn G L y b maxL ret2 lev2 As S (qe_l S r2)) (k : ∀ x : Int64, VVx cx sx G L X own cc nL ret lev emb n lv (.long x :: st) S (ko x)) : VVx cx sx G L X own cc nL ret lev emb pc lv st0 S (of.bind ko) := qr_cs As hd hn cv hna hst hsum hlev hmax hc (fun z => k z)
theorem qr_cvu {of : Option qv_St} {ko : qv_St → Option ρ} (q : Nat) (As : List Value) {ci : Nat} {fs : List (Option Nat)} {T : u_T} {N : Nat} (hd : decode cc pc = .ok (.invokevirtual idx, 3)) (hn : pc + 3 = n) (cv : qv_cv own idx y b maxL ret2 na) (hna : As.length = na) (hst : st0 = As.reverse ++ .ref (G.2.2.1 q) :: st) (hsum : (st.map fun v => v.category).sum ≤ 8) (hlev : Nat.ble (lev2 + 1) lev = true) (hmax : Nat.ble maxL 45 = true) (hq : L[q]? = some (.inl (ci, fs))) (hcl : vwCl[ci]? = some (y.cls, T, N)) (hc : ∀ r2, of = some r2 → Cn G L y b maxL ret2 lev2 (.ref (G.2.2.1 q) :: As) S (qe_u r2)) (k : ∀ S : qv_St, VVx cx sx G L X own cc nL ret lev emb n lv st S (ko S)) : VVx cx sx G L X own cc nL ret lev emb pc lv st0 S (of.bind ko) := qr_cv q As hd hn cv hna hst hsum hlev hmax hq hcl hc (fun z => k z)
theorem qr_csu {of : Option qv_St} {ko : qv_St → Option ρ} (As : List Value) (hd : decode cc pc = .ok (.invokestatic idx, 3)) (hn : pc + 3 = n) (cv : qv_cs own idx y b maxL ret2 na) (hna : As.length = na) (hst : st0 = As.reverse ++ st) (hsum : (st.map fun v => v.category).sum ≤ 8) (hlev : Nat.ble (lev2 + 1) lev = true) (hmax : Nat.ble maxL 45 = true) (hc : ∀ r2, of = some r2 → Cn G L y b maxL ret2 lev2 As S (qe_u r2)) (k : ∀ S : qv_St, VVx cx sx G L X own cc nL ret lev emb n lv st S (ko S)) : VVx cx sx G L X own cc nL ret lev emb pc lv st0 S (of.bind ko) := qr_cs As hd hn cv hna hst hsum hlev hmax hc (fun z => k z)
theorem qr_cvm {of : Option (qv_St × Int32)} {ko : qv_St → Int32 → Option ρ} (q : Nat) (As : List Value) {ci : Nat} {fs : List (Option Nat)} {T : u_T} {N : Nat} (hd : decode cc pc = .ok (.invokevirtual idx, 3)) (hn : pc + 3 = n) (cv : qv_cv own idx y b maxL ret2 na) (hna : As.length = na) (hst : st0 = As.reverse ++ .ref (G.2.2.1 q) :: st) (hsum : (st.map fun v => v.category).sum ≤ 8) (hlev : Nat.ble (lev2 + 1) lev = true) (hmax : Nat.ble maxL 45 = true) (hq : L[q]? = some (.inl (ci, fs))) (hcl : vwCl[ci]? = some (y.cls, T, N)) (hc : ∀ r2, of = some r2 → Cn G L y b maxL ret2 lev2 (.ref (G.2.2.1 q) :: As) S (qe_m r2)) (k : ∀ (S : qv_St) (x : Int32), VVx cx sx G L X own cc nL ret lev emb n lv (.int x :: st) S (ko S x)) : VVx cx sx G L X own cc nL ret lev emb pc lv st0 S (qv_cm of ko) := qr_cv q As hd hn cv hna hst hsum hlev hmax hq hcl hc (fun z => k z.1 z.2)
theorem qr_csm {of : Option (qv_St × Int32)} {ko : qv_St → Int32 → Option ρ} (As : List Value) (hd : decode cc pc = .ok (.invokestatic idx, 3)) (hn : pc + 3 = n) (cv : qv_cs own idx y b maxL ret2 na) (hna : As.length = na) (hst : st0 = As.reverse ++ st) (hsum : (st.map fun v => v.category).sum ≤ 8) (hlev : Nat.ble (lev2 + 1) lev = true) (hmax : Nat.ble maxL 45 = true) (hc : ∀ r2, of = some r2 → Cn G L y b maxL ret2 lev2 As S (qe_m r2)) (k : ∀ (S : qv_St) (x : Int32), VVx cx sx G L X own cc nL ret lev emb n lv (.int x :: st) S (ko S x)) : VVx cx sx G L X own cc nL ret lev emb pc lv st0 S (qv_cm of ko) := qr_cs As hd hn cv hna hst hsum hlev hmax hc (fun z => k z.1 z.2)
theorem qr_csp {of : Option Unit} {ko : Unit → Option ρ} (As : List Value) (hd : decode cc pc = .ok (.invokestatic idx, 3)) (hn : pc + 3 = n) (cv : qv_cs own idx y b maxL ret2 na) (hna : As.length = na) (hst : st0 = As.reverse ++ st) (hsum : (st.map fun v => v.category).sum ≤ 8) (hlev : Nat.ble (lev2 + 1) lev = true) (hmax : Nat.ble maxL 45 = true) (hc : ∀ r2, of = some r2 → Cn G L y b maxL ret2 lev2 As S (qe_p S r2)) (k : VVx cx sx G L X own cc nL ret lev emb n lv st S (ko ())) : VVx cx sx G L X own cc nL ret lev emb pc lv st0 S (of.bind ko) := qr_cs As hd hn cv hna hst hsum hlev hmax hc (fun _ => k)
end QVD
def qv_lp1 {A1 ρ : Type} : Nat → ((A1 → Option ρ) → A1 → Option ρ) → A1 → Option ρ
  | 0, _, _ => none
  | n + 1, f, a1 => f (qv_lp1 n f) a1
theorem qr_lp1 {cx sx : Nat} {G : qv_GT} {L : List qv_Lc} {X : qv_XT} {own : String} {cc : ByteArray} {nL : Nat} {ret : Option FieldType} {lev : Nat} {ρ : Type} {emb : ρ → qv_St × Option Value} {pc : Nat} {A1 : Type} (lvf : A1 → List (Nat × Value)) (Sf : A1 → qv_St) {f : (A1 → Option ρ) → A1 → Option ρ} (k : ∀ self : A1 → Option ρ, (∀ (a1 : A1), VVx cx sx G L X own cc nL ret lev emb pc (lvf a1) [] (Sf a1) (self a1)) → ∀ (a1 : A1), VVx cx sx G L X own cc nL ret lev emb pc (lvf a1) [] (Sf a1) (f self a1)) (N : Nat) : ∀ (a1 : A1), VVx cx sx G L X own cc nL ret lev emb pc (lvf a1) [] (Sf a1) (qv_lp1 N f a1) := by
  induction N with
  | zero => exact fun _ r hr => by cases hr
  | succ N ih => exact fun a1 => k (qv_lp1 N f) ih a1
def qv_lp2 {A1 A2 ρ : Type} : Nat → ((A1 → A2 → Option ρ) → A1 → A2 → Option ρ) → A1 → A2 → Option ρ
  | 0, _, _, _ => none
  | n + 1, f, a1, a2 => f (qv_lp2 n f) a1 a2
theorem qr_lp2 {cx sx : Nat} {G : qv_GT} {L : List qv_Lc} {X : qv_XT} {own : String} {cc : ByteArray} {nL : Nat} {ret : Option FieldType} {lev : Nat} {ρ : Type} {emb : ρ → qv_St × Option Value} {pc : Nat} {A1 A2 : Type} (lvf : A1 → A2 → List (Nat × Value)) (Sf : A1 → A2 → qv_St) {f : (A1 → A2 → Option ρ) → A1 → A2 → Option ρ} (k : ∀ self : A1 → A2 → Option ρ, (∀ (a1 : A1) (a2 : A2), VVx cx sx G L X own cc nL ret lev emb pc (lvf a1 a2) [] (Sf a1 a2) (self a1 a2)) → ∀ (a1 : A1) (a2 : A2), VVx cx sx G L X own cc nL ret lev emb pc (lvf a1 a2) [] (Sf a1 a2) (f self a1 a2)) (N : Nat) : ∀ (a1 : A1) (a2 : A2), VVx cx sx G L X own cc nL ret lev emb pc (lvf a1 a2) [] (Sf a1 a2) (qv_lp2 N f a1 a2) := by
  induction N with
  | zero => exact fun _ _ r hr => by cases hr
  | succ N ih => exact fun a1 a2 => k (qv_lp2 N f) ih a1 a2
def qv_lp3 {A1 A2 A3 ρ : Type} : Nat → ((A1 → A2 → A3 → Option ρ) → A1 → A2 → A3 → Option ρ) → A1 → A2 → A3 → Option ρ
  | 0, _, _, _, _ => none
  | n + 1, f, a1, a2, a3 => f (qv_lp3 n f) a1 a2 a3
theorem qr_lp3 {cx sx : Nat} {G : qv_GT} {L : List qv_Lc} {X : qv_XT} {own : String} {cc : ByteArray} {nL : Nat} {ret : Option FieldType} {lev : Nat} {ρ : Type} {emb : ρ → qv_St × Option Value} {pc : Nat} {A1 A2 A3 : Type} (lvf : A1 → A2 → A3 → List (Nat × Value)) (Sf : A1 → A2 → A3 → qv_St) {f : (A1 → A2 → A3 → Option ρ) → A1 → A2 → A3 → Option ρ} (k : ∀ self : A1 → A2 → A3 → Option ρ, (∀ (a1 : A1) (a2 : A2) (a3 : A3), VVx cx sx G L X own cc nL ret lev emb pc (lvf a1 a2 a3) [] (Sf a1 a2 a3) (self a1 a2 a3)) → ∀ (a1 : A1) (a2 : A2) (a3 : A3), VVx cx sx G L X own cc nL ret lev emb pc (lvf a1 a2 a3) [] (Sf a1 a2 a3) (f self a1 a2 a3)) (N : Nat) : ∀ (a1 : A1) (a2 : A2) (a3 : A3), VVx cx sx G L X own cc nL ret lev emb pc (lvf a1 a2 a3) [] (Sf a1 a2 a3) (qv_lp3 N f a1 a2 a3) := by
  induction N with
  | zero => exact fun _ _ _ r hr => by cases hr
  | succ N ih => exact fun a1 a2 a3 => k (qv_lp3 N f) ih a1 a2 a3
def qv_lp4 {A1 A2 A3 A4 ρ : Type} : Nat → ((A1 → A2 → A3 → A4 → Option ρ) → A1 → A2 → A3 → A4 → Option ρ) → A1 → A2 → A3 → A4 → Option ρ
  | 0, _, _, _, _, _ => none
  | n + 1, f, a1, a2, a3, a4 => f (qv_lp4 n f) a1 a2 a3 a4
theorem qr_lp4 {cx sx : Nat} {G : qv_GT} {L : List qv_Lc} {X : qv_XT} {own : String} {cc : ByteArray} {nL : Nat} {ret : Option FieldType} {lev : Nat} {ρ : Type} {emb : ρ → qv_St × Option Value} {pc : Nat} {A1 A2 A3 A4 : Type} (lvf : A1 → A2 → A3 → A4 → List (Nat × Value)) (Sf : A1 → A2 → A3 → A4 → qv_St) {f : (A1 → A2 → A3 → A4 → Option ρ) → A1 → A2 → A3 → A4 → Option ρ} (k : ∀ self : A1 → A2 → A3 → A4 → Option ρ, (∀ (a1 : A1) (a2 : A2) (a3 : A3) (a4 : A4), VVx cx sx G L X own cc nL ret lev emb pc (lvf a1 a2 a3 a4) [] (Sf a1 a2 a3 a4) (self a1 a2 a3 a4)) → ∀ (a1 : A1) (a2 : A2) (a3 : A3) (a4 : A4), VVx cx sx G L X own cc nL ret lev emb pc (lvf a1 a2 a3 a4) [] (Sf a1 a2 a3 a4) (f self a1 a2 a3 a4)) (N : Nat) : ∀ (a1 : A1) (a2 : A2) (a3 : A3) (a4 : A4), VVx cx sx G L X own cc nL ret lev emb pc (lvf a1 a2 a3 a4) [] (Sf a1 a2 a3 a4) (qv_lp4 N f a1 a2 a3 a4) := by
  induction N with
  | zero => exact fun _ _ _ _ r hr => by cases hr
  | succ N ih => exact fun a1 a2 a3 a4 => k (qv_lp4 N f) ih a1 a2 a3 a4
def qv_lp5 {A1 A2 A3 A4 A5 ρ : Type} : Nat → ((A1 → A2 → A3 → A4 → A5 → Option ρ) → A1 → A2 → A3 → A4 → A5 → Option ρ) → A1 → A2 → A3 → A4 → A5 → Option ρ
  | 0, _, _, _, _, _, _ => none
  | n + 1, f, a1, a2, a3, a4, a5 => f (qv_lp5 n f) a1 a2 a3 a4 a5
theorem qr_lp5 {cx sx : Nat} {G : qv_GT} {L : List qv_Lc} {X : qv_XT} {own : String} {cc : ByteArray} {nL : Nat} {ret : Option FieldType} {lev : Nat} {ρ : Type} {emb : ρ → qv_St × Option Value} {pc : Nat} {A1 A2 A3 A4 A5 : Type} (lvf : A1 → A2 → A3 → A4 → A5 → List (Nat × Value)) (Sf : A1 → A2 → A3 → A4 → A5 → qv_St) {f : (A1 → A2 → A3 → A4 → A5 → Option ρ) → A1 → A2 → A3 → A4 → A5 → Option ρ} (k : ∀ self : A1 → A2 → A3 → A4 → A5 → Option ρ, (∀ (a1 : A1) (a2 : A2) (a3 : A3) (a4 : A4) (a5 : A5), VVx cx sx G L X own cc nL ret lev emb pc (lvf a1 a2 a3 a4 a5) [] (Sf a1 a2 a3 a4 a5) (self a1 a2 a3 a4 a5)) → ∀ (a1 : A1) (a2 : A2) (a3 : A3) (a4 : A4) (a5 : A5), VVx cx sx G L X own cc nL ret lev emb pc (lvf a1 a2 a3 a4 a5) [] (Sf a1 a2 a3 a4 a5) (f self a1 a2 a3 a4 a5)) (N : Nat) : ∀ (a1 : A1) (a2 : A2) (a3 : A3) (a4 : A4) (a5 : A5), VVx cx sx G L X own cc nL ret lev emb pc (lvf a1 a2 a3 a4 a5) [] (Sf a1 a2 a3 a4 a5) (qv_lp5 N f a1 a2 a3 a4 a5) := by
  induction N with
  | zero => exact fun _ _ _ _ _ r hr => by cases hr
  | succ N ih => exact fun a1 a2 a3 a4 a5 => k (qv_lp5 N f) ih a1 a2 a3 a4 a5
def qv_lp6 {A1 A2 A3 A4 A5 A6 ρ : Type} : Nat → ((A1 → A2 → A3 → A4 → A5 → A6 → Option ρ) → A1 → A2 → A3 → A4 → A5 → A6 → Option ρ) → A1 → A2 → A3 → A4 → A5 → A6 → Option ρ
  | 0, _, _, _, _, _, _, _ => none
  | n + 1, f, a1, a2, a3, a4, a5, a6 => f (qv_lp6 n f) a1 a2 a3 a4 a5 a6
theorem qr_lp6 {cx sx : Nat} {G : qv_GT} {L : List qv_Lc} {X : qv_XT} {own : String} {cc : ByteArray} {nL : Nat} {ret : Option FieldType} {lev : Nat} {ρ : Type} {emb : ρ → qv_St × Option Value} {pc : Nat} {A1 A2 A3 A4 A5 A6 : Type} (lvf : A1 → A2 → A3 → A4 → A5 → A6 → List (Nat × Value)) (Sf : A1 → A2 → A3 → A4 → A5 → A6 → qv_St) {f : (A1 → A2 → A3 → A4 → A5 → A6 → Option ρ) → A1 → A2 → A3 → A4 → A5 → A6 → Option ρ} (k : ∀ self : A1 → A2 → A3 → A4 → A5 → A6 → Option ρ, (∀ (a1 : A1) (a2 : A2) (a3 : A3) (a4 : A4) (a5 : A5) (a6 : A6), VVx cx sx G L X own cc nL ret lev emb pc (lvf a1 a2 a3 a4 a5 a6) [] (Sf a1 a2 a3 a4 a5 a6) (self a1 a2 a3 a4 a5 a6)) → ∀ (a1 : A1) (a2 : A2) (a3 : A3) (a4 : A4) (a5 : A5) (a6 : A6), VVx cx sx G L X own cc nL ret lev emb pc (lvf a1 a2 a3 a4 a5 a6) [] (Sf a1 a2 a3 a4 a5 a6) (f self a1 a2 a3 a4 a5 a6)) (N : Nat) : ∀ (a1 : A1) (a2 : A2) (a3 : A3) (a4 : A4) (a5 : A5) (a6 : A6), VVx cx sx G L X own cc nL ret lev emb pc (lvf a1 a2 a3 a4 a5 a6) [] (Sf a1 a2 a3 a4 a5 a6) (qv_lp6 N f a1 a2 a3 a4 a5 a6) := by
  induction N with
  | zero => exact fun _ _ _ _ _ _ r hr => by cases hr
  | succ N ih => exact fun a1 a2 a3 a4 a5 a6 => k (qv_lp6 N f) ih a1 a2 a3 a4 a5 a6
def qv_lp7 {A1 A2 A3 A4 A5 A6 A7 ρ : Type} : Nat → ((A1 → A2 → A3 → A4 → A5 → A6 → A7 → Option ρ) → A1 → A2 → A3 → A4 → A5 → A6 → A7 → Option ρ) → A1 → A2 → A3 → A4 → A5 → A6 → A7 → Option ρ
  | 0, _, _, _, _, _, _, _, _ => none
  | n + 1, f, a1, a2, a3, a4, a5, a6, a7 => f (qv_lp7 n f) a1 a2 a3 a4 a5 a6 a7
theorem qr_lp7 {cx sx : Nat} {G : qv_GT} {L : List qv_Lc} {X : qv_XT} {own : String} {cc : ByteArray} {nL : Nat} {ret : Option FieldType} {lev : Nat} {ρ : Type} {emb : ρ → qv_St × Option Value} {pc : Nat} {A1 A2 A3 A4 A5 A6 A7 : Type} (lvf : A1 → A2 → A3 → A4 → A5 → A6 → A7 → List (Nat × Value)) (Sf : A1 → A2 → A3 → A4 → A5 → A6 → A7 → qv_St) {f : (A1 → A2 → A3 → A4 → A5 → A6 → A7 → Option ρ) → A1 → A2 → A3 → A4 → A5 → A6 → A7 → Option ρ} (k : ∀ self : A1 → A2 → A3 → A4 → A5 → A6 → A7 → Option ρ, (∀ (a1 : A1) (a2 : A2) (a3 : A3) (a4 : A4) (a5 : A5) (a6 : A6) (a7 : A7), VVx cx sx G L X own cc nL ret lev emb pc (lvf a1 a2 a3 a4 a5 a6 a7) [] (Sf a1 a2 a3 a4 a5 a6 a7) (self a1 a2 a3 a4 a5 a6 a7)) → ∀ (a1 : A1) (a2 : A2) (a3 : A3) (a4 : A4) (a5 : A5) (a6 : A6) (a7 : A7), VVx cx sx G L X own cc nL ret lev emb pc (lvf a1 a2 a3 a4 a5 a6 a7) [] (Sf a1 a2 a3 a4 a5 a6 a7) (f self a1 a2 a3 a4 a5 a6 a7)) (N : Nat) : ∀ (a1 : A1) (a2 : A2) (a3 : A3) (a4 : A4) (a5 : A5) (a6 : A6) (a7 : A7), VVx cx sx G L X own cc nL ret lev emb pc (lvf a1 a2 a3 a4 a5 a6 a7) [] (Sf a1 a2 a3 a4 a5 a6 a7) (qv_lp7 N f a1 a2 a3 a4 a5 a6 a7) := by
  induction N with
  | zero => exact fun _ _ _ _ _ _ _ r hr => by cases hr
  | succ N ih => exact fun a1 a2 a3 a4 a5 a6 a7 => k (qv_lp7 N f) ih a1 a2 a3 a4 a5 a6 a7
def qv_lp8 {A1 A2 A3 A4 A5 A6 A7 A8 ρ : Type} : Nat → ((A1 → A2 → A3 → A4 → A5 → A6 → A7 → A8 → Option ρ) → A1 → A2 → A3 → A4 → A5 → A6 → A7 → A8 → Option ρ) → A1 → A2 → A3 → A4 → A5 → A6 → A7 → A8 → Option ρ
  | 0, _, _, _, _, _, _, _, _, _ => none
  | n + 1, f, a1, a2, a3, a4, a5, a6, a7, a8 => f (qv_lp8 n f) a1 a2 a3 a4 a5 a6 a7 a8
theorem qr_lp8 {cx sx : Nat} {G : qv_GT} {L : List qv_Lc} {X : qv_XT} {own : String} {cc : ByteArray} {nL : Nat} {ret : Option FieldType} {lev : Nat} {ρ : Type} {emb : ρ → qv_St × Option Value} {pc : Nat} {A1 A2 A3 A4 A5 A6 A7 A8 : Type} (lvf : A1 → A2 → A3 → A4 → A5 → A6 → A7 → A8 → List (Nat × Value)) (Sf : A1 → A2 → A3 → A4 → A5 → A6 → A7 → A8 → qv_St) {f : (A1 → A2 → A3 → A4 → A5 → A6 → A7 → A8 → Option ρ) → A1 → A2 → A3 → A4 → A5 → A6 → A7 → A8 → Option ρ} (k : ∀ self : A1 → A2 → A3 → A4 → A5 → A6 → A7 → A8 → Option ρ, (∀ (a1 : A1) (a2 : A2) (a3 : A3) (a4 : A4) (a5 : A5) (a6 : A6) (a7 : A7) (a8 : A8), VVx cx sx G L X own cc nL ret lev emb pc (lvf a1 a2 a3 a4 a5 a6 a7 a8) [] (Sf a1 a2 a3 a4 a5 a6 a7 a8) (self a1 a2 a3 a4 a5 a6 a7 a8)) → ∀ (a1 : A1) (a2 : A2) (a3 : A3) (a4 : A4) (a5 : A5) (a6 : A6) (a7 : A7) (a8 : A8), VVx cx sx G L X own cc nL ret lev emb pc (lvf a1 a2 a3 a4 a5 a6 a7 a8) [] (Sf a1 a2 a3 a4 a5 a6 a7 a8) (f self a1 a2 a3 a4 a5 a6 a7 a8)) (N : Nat) : ∀ (a1 : A1) (a2 : A2) (a3 : A3) (a4 : A4) (a5 : A5) (a6 : A6) (a7 : A7) (a8 : A8), VVx cx sx G L X own cc nL ret lev emb pc (lvf a1 a2 a3 a4 a5 a6 a7 a8) [] (Sf a1 a2 a3 a4 a5 a6 a7 a8) (qv_lp8 N f a1 a2 a3 a4 a5 a6 a7 a8) := by
  induction N with
  | zero => exact fun _ _ _ _ _ _ _ _ r hr => by cases hr
  | succ N ih => exact fun a1 a2 a3 a4 a5 a6 a7 a8 => k (qv_lp8 N f) ih a1 a2 a3 a4 a5 a6 a7 a8
def qv_lp9 {A1 A2 A3 A4 A5 A6 A7 A8 A9 ρ : Type} : Nat → ((A1 → A2 → A3 → A4 → A5 → A6 → A7 → A8 → A9 → Option ρ) → A1 → A2 → A3 → A4 → A5 → A6 → A7 → A8 → A9 → Option ρ) → A1 → A2 → A3 → A4 → A5 → A6 → A7 → A8 → A9 → Option ρ
  | 0, _, _, _, _, _, _, _, _, _, _ => none
  | n + 1, f, a1, a2, a3, a4, a5, a6, a7, a8, a9 => f (qv_lp9 n f) a1 a2 a3 a4 a5 a6 a7 a8 a9
theorem qr_lp9 {cx sx : Nat} {G : qv_GT} {L : List qv_Lc} {X : qv_XT} {own : String} {cc : ByteArray} {nL : Nat} {ret : Option FieldType} {lev : Nat} {ρ : Type} {emb : ρ → qv_St × Option Value} {pc : Nat} {A1 A2 A3 A4 A5 A6 A7 A8 A9 : Type} (lvf : A1 → A2 → A3 → A4 → A5 → A6 → A7 → A8 → A9 → List (Nat × Value)) (Sf : A1 → A2 → A3 → A4 → A5 → A6 → A7 → A8 → A9 → qv_St) {f : (A1 → A2 → A3 → A4 → A5 → A6 → A7 → A8 → A9 → Option ρ) → A1 → A2 → A3 → A4 → A5 → A6 → A7 → A8 → A9 → Option ρ} (k : ∀ self : A1 → A2 → A3 → A4 → A5 → A6 → A7 → A8 → A9 → Option ρ, (∀ (a1 : A1) (a2 : A2) (a3 : A3) (a4 : A4) (a5 : A5) (a6 : A6) (a7 : A7) (a8 : A8) (a9 : A9), VVx cx sx G L X own cc nL ret lev emb pc (lvf a1 a2 a3 a4 a5 a6 a7 a8 a9) [] (Sf a1 a2 a3 a4 a5 a6 a7 a8 a9) (self a1 a2 a3 a4 a5 a6 a7 a8 a9)) → ∀ (a1 : A1) (a2 : A2) (a3 : A3) (a4 : A4) (a5 : A5) (a6 : A6) (a7 : A7) (a8 : A8) (a9 : A9), VVx cx sx G L X own cc nL ret lev emb pc (lvf a1 a2 a3 a4 a5 a6 a7 a8 a9) [] (Sf a1 a2 a3 a4 a5 a6 a7 a8 a9) (f self a1 a2 a3 a4 a5 a6 a7 a8 a9)) (N : Nat) : ∀ (a1 : A1) (a2 : A2) (a3 : A3) (a4 : A4) (a5 : A5) (a6 : A6) (a7 : A7) (a8 : A8) (a9 : A9), VVx cx sx G L X own cc nL ret lev emb pc (lvf a1 a2 a3 a4 a5 a6 a7 a8 a9) [] (Sf a1 a2 a3 a4 a5 a6 a7 a8 a9) (qv_lp9 N f a1 a2 a3 a4 a5 a6 a7 a8 a9) := by
  induction N with
  | zero => exact fun _ _ _ _ _ _ _ _ _ r hr => by cases hr
  | succ N ih => exact fun a1 a2 a3 a4 a5 a6 a7 a8 a9 => k (qv_lp9 N f) ih a1 a2 a3 a4 a5 a6 a7 a8 a9
def qv_lp10 {A1 A2 A3 A4 A5 A6 A7 A8 A9 A10 ρ : Type} : Nat → ((A1 → A2 → A3 → A4 → A5 → A6 → A7 → A8 → A9 → A10 → Option ρ) → A1 → A2 → A3 → A4 → A5 → A6 → A7 → A8 → A9 → A10 → Option ρ) → A1 → A2 → A3 → A4 → A5 → A6 → A7 → A8 → A9 → A10 → Option ρ
  | 0, _, _, _, _, _, _, _, _, _, _, _ => none
  | n + 1, f, a1, a2, a3, a4, a5, a6, a7, a8, a9, a10 => f (qv_lp10 n f) a1 a2 a3 a4 a5 a6 a7 a8 a9 a10
theorem qr_lp10 {cx sx : Nat} {G : qv_GT} {L : List qv_Lc} {X : qv_XT} {own : String} {cc : ByteArray} {nL : Nat} {ret : Option FieldType} {lev : Nat} {ρ : Type} {emb : ρ → qv_St × Option Value} {pc : Nat} {A1 A2 A3 A4 A5 A6 A7 A8 A9 A10 : Type} (lvf : A1 → A2 → A3 → A4 → A5 → A6 → A7 → A8 → A9 → A10 → List (Nat × Value)) (Sf : A1 → A2 → A3 → A4 → A5 → A6 → A7 → A8 → A9 → A10 → qv_St) {f : (A1 → A2 → A3 → A4 → A5 → A6 → A7 → A8 → A9 → A10 → Option ρ) → A1 → A2 → A3 → A4 → A5 → A6 → A7 → A8 → A9 → A10 → Option ρ} (k : ∀ self : A1 → A2 → A3 → A4 → A5 → A6 → A7 → A8 → A9 → A10 → Option ρ, (∀ (a1 : A1) (a2 : A2) (a3 : A3) (a4 : A4) (a5 : A5) (a6 : A6) (a7 : A7) (a8 : A8) (a9 : A9) (a10 : A10), VVx cx sx G L X own cc nL ret lev emb pc (lvf a1 a2 a3 a4 a5 a6 a7 a8 a9 a10) [] (Sf a1 a2 a3 a4 a5 a6 a7 a8 a9 a10) (self a1 a2 a3 a4 a5 a6 a7 a8 a9 a10)) → ∀ (a1 : A1) (a2 : A2) (a3 : A3) (a4 : A4) (a5 : A5) (a6 : A6) (a7 : A7) (a8 : A8) (a9 : A9) (a10 : A10), VVx cx sx G L X own cc nL ret lev emb pc (lvf a1 a2 a3 a4 a5 a6 a7 a8 a9 a10) [] (Sf a1 a2 a3 a4 a5 a6 a7 a8 a9 a10) (f self a1 a2 a3 a4 a5 a6 a7 a8 a9 a10)) (N : Nat) : ∀ (a1 : A1) (a2 : A2) (a3 : A3) (a4 : A4) (a5 : A5) (a6 : A6) (a7 : A7) (a8 : A8) (a9 : A9) (a10 : A10), VVx cx sx G L X own cc nL ret lev emb pc (lvf a1 a2 a3 a4 a5 a6 a7 a8 a9 a10) [] (Sf a1 a2 a3 a4 a5 a6 a7 a8 a9 a10) (qv_lp10 N f a1 a2 a3 a4 a5 a6 a7 a8 a9 a10) := by
  induction N with
  | zero => exact fun _ _ _ _ _ _ _ _ _ _ r hr => by cases hr
  | succ N ih => exact fun a1 a2 a3 a4 a5 a6 a7 a8 a9 a10 => k (qv_lp10 N f) ih a1 a2 a3 a4 a5 a6 a7 a8 a9 a10
def qv_sw {ρ : Type} (x : Int32) (lo hi : Int) (os : List (Option ρ)) (d : Option ρ) : Option ρ := if x.toInt < lo ∨ hi < x.toInt then d else (os[(x.toInt - lo).toNat]?).getD none
def qv_all {ρ : Type} (P : Int → Option ρ → Prop) : List Int → List (Option ρ) → Prop
  | a :: as, o :: os => P a o ∧ qv_all P as os
  | _, [] => True
  | [], _ :: _ => False
theorem qv_all_at {ρ : Type} {P : Int → Option ρ → Prop} : ∀ (as : List Int) (os : List (Option ρ)), qv_all P as os → ∀ (i : Nat) (o : Option ρ), os[i]? = some o → ∃ a, as[i]? = some a ∧ P a o
  | a :: as, o :: os, h, 0, o', ho => by cases ho; exact ⟨a, rfl, h.1⟩
  | a :: as, o :: os, h, i + 1, o', ho => qv_all_at as os h.2 i o' ho
  | _, [], _, i, o', ho => by simp at ho
  | [], _ :: _, h, _, _, _ => h.elim
theorem qr_sw {cx sx : Nat} {G : qv_GT} {L : List qv_Lc} {X : qv_XT} {own : String} {cc : ByteArray} {nL : Nat} {ret : Option FieldType} {lev : Nat} {ρ : Type} {emb : ρ → qv_St × Option Value} {pc : Nat} {lv : List (Nat × Value)} {st : List Value} {S : qv_St} {x : Int32} {dflt lo hi : Int} {offs : Array Int} {len td : Nat} {os : List (Option ρ)} {d : Option ρ} (hd : decode cc pc = .ok (.tableswitch dflt lo hi offs, len)) (ht : (pc : Int) + dflt = (td : Int)) (kd : VVx cx sx G L X own cc nL ret lev emb td lv st S d)
    (ks : qv_all (fun off o => ∃ t : Nat, (pc : Int) + off = (t : Int) ∧ VVx cx sx G L X own cc nL ret lev emb t lv st S o) offs.toList os) : VVx cx sx G L X own cc nL ret lev emb pc lv (.int x :: st) S (qv_sw x lo hi os d) := by
  intro r hr ok H locs ls hP hS hl
  obtain ⟨hx, hb, hml, hown, hts⟩ := ok.1
  unfold qv_sw at hr
  by_cases h : x.toInt < lo ∨ hi < x.toInt
  · rw [if_pos h] at hr
    exact lv_tableOut hx hb hd h ht (kd r hr ok H locs ls hP hS hl)
  · rw [if_neg h] at hr
    cases ho : os[(x.toInt - lo).toNat]? with
    | none => rw [ho] at hr; cases hr
    | some o2 =>
      rw [ho] at hr
      obtain ⟨off, h1, t, h2, h3⟩ := qv_all_at _ _ ks _ _ ho
      exact lv_tableIn hx hb hd (fun z => h (Or.inl z)) (fun z => h (Or.inr z)) (by rw [← Array.getElem?_toList]; exact h1) h2 (h3 r hr ok H locs ls hP hS hl)
end
section
def qv_rn {ρ : Type} (ty : FieldType) (y : Int32) (o : Option ρ) : Option ρ := if vp_nar ty y = y then o else none
def qv_cp (S : qv_St) (a sp b dp n : Nat) : qv_St := (fun q => if q = b then va_cpy (S.1 a) (S.1 b) sp dp n else S.1 q, S.2)
def qv_cq {ρ : Type} (sp dp n : Int32) (n0 n1 : Nat) (o : Option ρ) : Option ρ := if sp < 0 ∨ dp < 0 ∨ n < 0 ∨ n0 < sp.toNatClampNeg + n.toNatClampNeg ∨ n1 < dp.toNatClampNeg + n.toNatClampNeg then none else o
theorem qv_cp_ne {S : qv_St} {a sp b dp n : Nat} : ∀ i, i ≠ b → (qv_cp S a sp b dp n).1 i = S.1 i ∧ (qv_cp S a sp b dp n).2 i = S.2 i := fun i h => ⟨by simp [qv_cp, h], rfl⟩
theorem qv_set_cp {ad : Nat → Nat} {cy : Nat → ClassId} {L : List qv_Lc} {S : qv_St} {a sp b dp k n : Nat} {rs : List Nat} (h : L[b]? = some (.inr (0, n, rs))) : (qv_wd ad cy L S).set b (ad b, .inl (cy 0, n, .inl (va_cpy (S.1 a) (S.1 b) sp dp k))) = qv_wd ad cy L (qv_cp S a sp b dp k) :=
  qv_wd_set h (by simp [qv_cell, qv_cp]) qv_cp_ne
def qv_mx (x y : Int32) : Int32 := if x < y then y else x
def qv_mn (x y : Int32) : Int32 := if y < x then y else x
section QVX
variable {cx sx : Nat} {G : qv_GT} {L : List qv_Lc} {X : qv_XT} {own : String} {cc : ByteArray} {nL : Nat} {ret : Option FieldType} {lev : Nat} {ρ : Type} {emb : ρ → qv_St × Option Value} {pc : Nat} {lv : List (Nat × Value)} {st : List Value} {S : qv_St} {o : Option ρ}
theorem qr_max {x y : Int32} {idx n : Nat} (hd : decode cc pc = .ok (.invokestatic idx, 3)) (hn : pc + 3 = n) (hl1 : Cond.methodLink own idx Lib.Math.max.name ∈ gw_tbl) (hl2 : Cond.static Lib.Math.max.name ∈ gw_tbl) (hl3 : Cond.initialized "java/lang/Math" ∈ gw_tbl) (hl4 : Cond.code Lib.Math.max.name Lib.Math.max.code 2 (some .int) ∈ gw_tbl) (hlev : Nat.ble 1 lev = true) (hsum : (st.map fun v => v.category).sum ≤ 8) (k : VVx cx sx G L X own cc nL ret lev emb n lv (.int (qv_mx x y) :: st) S o) : VVx cx sx G L X own cc nL ret lev emb pc lv (.int y :: .int x :: st) S o := by
  subst hn
  intro r hr ok H locs ls hP hS hl
  obtain ⟨hx, hb, hml, hown, hts⟩ := ok.1
  have h1 := Nat.le_of_ble_eq_true hlev
  exact va_mmax hx hb (by rw [hml, hl.1]) hown (hts _ hl1) (hts _ hl2) (hts _ hl3) (hts _ hl4) h1 (by simp only [qv_room, qv_roomx]; omega) (Nat.le_refl _) (Nat.le_refl _) hd (k r hr ok H locs ls hP hS hl)
theorem qr_min {x y : Int32} {idx n : Nat} (hd : decode cc pc = .ok (.invokestatic idx, 3)) (hn : pc + 3 = n) (hl1 : Cond.methodLink own idx Lib.Math.min.name ∈ gw_tbl) (hl2 : Cond.static Lib.Math.min.name ∈ gw_tbl) (hl3 : Cond.initialized "java/lang/Math" ∈ gw_tbl) (hl4 : Cond.code Lib.Math.min.name Lib.Math.min.code 2 (some .int) ∈ gw_tbl) (hlev : Nat.ble 1 lev = true) (hsum : (st.map fun v => v.category).sum ≤ 8) (k : VVx cx sx G L X own cc nL ret lev emb n lv (.int (qv_mn x y) :: st) S o) : VVx cx sx G L X own cc nL ret lev emb pc lv (.int y :: .int x :: st) S o := by
  subst hn
  intro r hr ok H locs ls hP hS hl
  obtain ⟨hx, hb, hml, hown, hts⟩ := ok.1
  have h1 := Nat.le_of_ble_eq_true hlev
  exact va_mmin hx hb (by rw [hml, hl.1]) hown (hts _ hl1) (hts _ hl2) (hts _ hl3) (hts _ hl4) h1 (by simp only [qv_room, qv_roomx]; omega) (Nat.le_refl _) (Nat.le_refl _) hd (k r hr ok H locs ls hP hS hl)
theorem qr_ldcS0 {n : Nat} (hd : decode cc pc = .ok (.ldc 66, 2)) (hn : pc + 2 = n) (ho : own = "QuietTake$Tokens") (k : VVx cx sx G L X own cc nL ret lev emb n lv (.ref (G.2.2.1 1000) :: st) S o) : VVx cx sx G L X own cc nL ret lev emb pc lv st S o := by
  subst ho
  subst hn
  intro r hr ok H locs ls hP hS hl
  obtain ⟨hx, hb, hml, hown, hts⟩ := ok.1
  exact va_ldcS hx hb hown ok.2.2.2.2.2.2.1 hd (k r hr ok H locs ls hP hS hl)
theorem qr_ldcS1 {n : Nat} (hd : decode cc pc = .ok (.ldc 77, 2)) (hn : pc + 2 = n) (ho : own = "QuietTake$Tokens") (k : VVx cx sx G L X own cc nL ret lev emb n lv (.ref (G.2.2.1 1001) :: st) S o) : VVx cx sx G L X own cc nL ret lev emb pc lv st S o := by
  subst ho
  subst hn
  intro r hr ok H locs ls hP hS hl
  obtain ⟨hx, hb, hml, hown, hts⟩ := ok.1
  exact va_ldcS hx hb hown ok.2.2.2.2.2.2.2.1 hd (k r hr ok H locs ls hP hS hl)
theorem qr_gV (i : Nat) {idx n : Nat} (hd : decode cc pc = .ok (.getfield idx, 3)) (hn : pc + 3 = n) (hi : i < 2) (hw : Cond.fieldLink own idx "java/lang/String" "value" "[B" ∈ gw_tbl) (k : VVx cx sx G L X own cc nL ret lev emb n lv (.ref (G.2.2.1 (2000 + i)) :: st) S o) : VVx cx sx G L X own cc nL ret lev emb pc lv (.ref (G.2.2.1 (1000 + i)) :: st) S o := by
  subst hn
  intro r hr ok H locs ls hP hS hl
  obtain ⟨hx, hb, hml, hown, hts⟩ := ok.1
  exact vk_getf hx hb (ok.2.2.2.2.2.1.1 i hi).2.2.1 hS hown (hts _ hw) (fun _ h => h) hd (k r hr ok H locs ls hP hS hl)
theorem qr_gC (i : Nat) {idx n : Nat} (hd : decode cc pc = .ok (.getfield idx, 3)) (hn : pc + 3 = n) (hi : i < 2) (hw : Cond.fieldLink own idx "java/lang/String" "coder" "B" ∈ gw_tbl) (k : VVx cx sx G L X own cc nL ret lev emb n lv (.int 0 :: st) S o) : VVx cx sx G L X own cc nL ret lev emb pc lv (.ref (G.2.2.1 (1000 + i)) :: st) S o := by
  subst hn
  intro r hr ok H locs ls hP hS hl
  obtain ⟨hx, hb, hml, hown, hts⟩ := ok.1
  exact vk_getf hx hb (ok.2.2.2.2.2.1.1 i hi).2.1 hS hown (hts _ hw) (fun _ h => h) hd (k r hr ok H locs ls hP hS hl)
theorem qr_tb (i : Nat) {n : Nat} {j : Int32} (hd : decode cc pc = .ok (.baload, 1)) (hn : pc + 1 = n) (hi : i < 2) (k : VVx cx sx G L X own cc nL ret lev emb n lv (.int ((qv_byt.getD i []).getD (Int32.toNatClampNeg j) 0) :: st) S o) : VVx cx sx G L X own cc nL ret lev emb pc lv (.int j :: .ref (G.2.2.1 (2000 + i)) :: st) S (qv_ck j (qv_len.getD i 0) o) := by
  subst hn
  intro r hr ok H locs ls hP hS hl
  obtain ⟨hx, hb, hml, hown, hts⟩ := ok.1
  unfold qv_ck at hr
  split at hr
  · next h0 => exact va_tb hx hb (ok.2.2.2.2.2.1.1 i hi).2.2.2 hS (qv_in_iff.mp h0) rfl hd (k r hr ok H locs ls hP hS hl)
  · cases hr
theorem qr_tlen (i : Nat) {n : Nat} (hd : decode cc pc = .ok (.arraylength, 1)) (hn : pc + 1 = n) (hi : i < 2) (k : VVx cx sx G L X own cc nL ret lev emb n lv (.int (Int32.ofNat (qv_len.getD i 0)) :: st) S o) : VVx cx sx G L X own cc nL ret lev emb pc lv (.ref (G.2.2.1 (2000 + i)) :: st) S o := by
  subst hn
  intro r hr ok H locs ls hP hS hl
  obtain ⟨hx, hb, hml, hown, hts⟩ := ok.1
  exact va_tlen hx hb (ok.2.2.2.2.2.1.1 i hi).2.2.2 hS rfl hd (k r hr ok H locs ls hP hS hl)
theorem qr_gcs {idx n : Nat} (hd : decode cc pc = .ok (.getstatic idx, 3)) (hn : pc + 3 = n) (hw : Cond.fieldLink own idx "java/lang/String" "COMPACT_STRINGS" "Z" ∈ gw_tbl) (k : VVx cx sx G L X own cc nL ret lev emb n lv (.int 1 :: st) S o) : VVx cx sx G L X own cc nL ret lev emb pc lv st S o := by
  subst hn
  intro r hr ok H locs ls hP hS hl
  obtain ⟨hx, hb, hml, hown, hts⟩ := ok.1
  exact va_gets hx hb ok.2.2.2.2.2.2.2.2.1 hS hown (hts _ hw) (fun _ h => h) hd (k r hr ok H locs ls hP hS hl)
theorem qr_gfm {idx n : Nat} (hd : decode cc pc = .ok (.getstatic idx, 3)) (hn : pc + 3 = n) (hw : Cond.fieldLink own idx "jdk/internal/util/Preconditions" "SIOOBE_FORMATTER" "Ljava/util/function/BiFunction;" ∈ gw_tbl) (k : VVx cx sx G L X own cc nL ret lev emb n lv (qv_fm G :: st) S o) : VVx cx sx G L X own cc nL ret lev emb pc lv st S o := by
  subst hn
  intro r hr ok H locs ls hP hS hl
  obtain ⟨hx, hb, hml, hown, hts⟩ := ok.1
  exact va_gets hx hb ok.2.2.2.2.2.2.2.2.2.1 hS hown (hts _ hw) (fun _ h => h) hd (k r hr ok H locs ls hP hS hl)
theorem qr_nretB {x : Int32} {z : ρ} (hd : decode cc pc = .ok (.ireturn, 1)) (hrt : ret = some .byte) (he : emb z = (S, some (.int x))) : VVx cx sx G L X own cc nL ret lev emb pc lv [.int x] S (qv_rn .byte x (some z)) := by
  intro r hr ok H locs ls hP hS hl
  unfold qv_rn at hr
  split at hr
  · next h0 =>
    cases hr
    obtain ⟨hx, hb, hml, hown, hts⟩ := ok.1
    rw [he]
    exact W.zret hx hb (by rw [ok.2.1, hrt]) (show narrow .byte (.int x) = .int x from congrArg Value.int h0) (fun t ht hW => ⟨rfl, by rw [ht]; exact hP, hS.F ht⟩) hS.2.2 hd ok.2.2.1
  · cases hr
theorem qr_nretC {x : Int32} {z : ρ} (hd : decode cc pc = .ok (.ireturn, 1)) (hrt : ret = some .char) (he : emb z = (S, some (.int x))) : VVx cx sx G L X own cc nL ret lev emb pc lv [.int x] S (qv_rn .char x (some z)) := by
  intro r hr ok H locs ls hP hS hl
  unfold qv_rn at hr
  split at hr
  · next h0 =>
    cases hr
    obtain ⟨hx, hb, hml, hown, hts⟩ := ok.1
    rw [he]
    exact W.zret hx hb (by rw [ok.2.1, hrt]) (show narrow .char (.int x) = .int x from congrArg Value.int h0) (fun t ht hW => ⟨rfl, by rw [ht]; exact hP, hS.F ht⟩) hS.2.2 hd ok.2.2.1
  · cases hr
theorem qr_kvi {y : MethodName} {b : ByteArray} {maxL : Nat} {ret2 : Option FieldType} {lev2 idx na n : Nat} {of : Option Int32} {ko : Int32 → Option ρ} {st0 : List Value} (i : Nat) (As : List Value) (hd : decode cc pc = .ok (.invokevirtual idx, 3)) (hn : pc + 3 = n) (cv : qv_cv own idx y b maxL ret2 na) (hna : As.length = na) (hst : st0 = As.reverse ++ .ref (G.2.2.1 (1000 + i)) :: st) (hsum : (st.map fun v => v.category).sum ≤ 8) (hlev : Nat.ble (lev2 + 1) lev = true) (hmax : Nat.ble maxL 45 = true) (hi : i < 2) (hcl : y.cls = "java/lang/String") (hc : ∀ r2 : Int32, of = some r2 → Cn G L y b maxL ret2 lev2 (.ref (G.2.2.1 (1000 + i)) :: As) S (qe_i S r2))
    (k : ∀ x : Int32, VVx cx sx G L X own cc nL ret lev emb n lv (.int x :: st) S (ko x)) : VVx cx sx G L X own cc nL ret lev emb pc lv st0 S (of.bind ko) := by
  subst hn
  subst hst
  intro r hr ok H locs ls hP hS hl
  cases ho : of with
  | none => rw [ho] at hr; cases hr
  | some r2 =>
    rw [ho] at hr
    obtain ⟨hx, hb, hml, hown, hts⟩ := ok.1
    have h1 := Nat.le_of_ble_eq_true hlev
    have h2 := Nat.le_of_ble_eq_true hmax
    refine qv_after (va_runV (As := As) (rest := st) ⟨hx, hb, hml, hown, hts⟩ (hc r2 ho) (C := y.cls) ⟨callB_of na hts (gw_ws cv.1.2.2.2.2) rfl rfl rfl (hts _ cv.1.2.2.2.1) (hts _ cv.1.1) cv.2 ⟨h1, by simp only [qv_room, qv_roomx]; omega⟩, hts _ cv.1.2.1, hts _ cv.1.2.2.1⟩ ⟨qv_blind, by rw [hcl]; exact vk_recv (adK := fun i => G.2.2.1 (1000 + i)) (i := i) ok.2.2.2.2.2.1 hi hS, fun U hU hW => ⟨rfl, ok.2.2.2.2.1, by rw [hU]; exact hP, va_K.moved hW.alike ok.2.2.2.1, qv_ro_go ok.2.2.2.2.2 hS hU hW⟩⟩ rfl hna hl.1 rfl (lv_room hsum) hd ⟨Nat.le_refl _, Nat.le_refl _⟩) hS (fun H1 locs1 hP1 hS1 => ?_)
    exact k r2 r hr ok H1 locs1 ls hP1 hS1 hl
theorem qr_copy (a n0 b n1 : Nat) {rs0 rs1 : List Nat} {idx n : Nat} {sp dp c : Int32} {ko : qv_St → Option ρ} (hd : decode cc pc = .ok (.invokestatic idx, 3)) (hn : pc + 3 = n) (hl1 : Cond.methodLink own idx arraycopyName ∈ gw_tbl) (hl2 : Cond.native arraycopyName ∈ gw_tbl) (hl3 : Cond.static arraycopyName ∈ gw_tbl) (hl4 : Cond.initialized "java/lang/System" ∈ gw_tbl) (hlev : Nat.ble 1 lev = true) (hsum : (st.map fun v => v.category).sum ≤ 8) (ha : L[a]? = some (.inr (0, n0, rs0))) (hb1 : L[b]? = some (.inr (0, n1, rs1))) (k : ∀ S : qv_St, VVx cx sx G L X own cc nL ret lev emb n lv st S (ko S)) : VVx cx sx G L X own cc nL ret lev emb pc lv (.int c :: .int dp :: .ref (G.2.2.1 b) :: .int sp :: .ref (G.2.2.1 a) :: st) S (qv_cq sp dp c n0 n1 (qv_b (qv_cp S a sp.toNatClampNeg b dp.toNatClampNeg c.toNatClampNeg) ko)) := by
  subst hn
  intro r hr ok H locs ls hP hS hl
  obtain ⟨hx, hb, hml, hown, hts⟩ := ok.1
  have h1 := Nat.le_of_ble_eq_true hlev
  unfold qv_cq at hr
  split at hr
  · cases hr
  · next h0 =>
    simp only [not_or, Nat.not_lt] at h0
    obtain ⟨c1, c2, c3, c4, c5⟩ := h0
    refine va_copyi hx hb (by rw [hml, hl.1]) hown (hts _ hl1) (hts _ hl2) (hts _ hl3) (hts _ hl4) ok.2.2.2.1 hP (qv_D ok.2.2.2.2.1) hS a b 0 0 (ty := .int) (qv_at_a ha (by decide)) (qv_at_a hb1 (by decide)) rfl rfl rfl c1 c2 c3 c4 c5 (fun _ _ => rfl) h1 ?_ hd (fun H1 locs1 hP1 hD1 hS1 => ?_)
    · have h9 : nativeFrameWords "java/lang/System" "arraycopy" 5 + 11 ≤ 56 := by decide
      simp only [qv_roomx]
      omega
    · rw [qv_set_cp hb1] at hP1
      exact k _ r hr ok H1 locs1 ls hP1 hS1 hl
theorem qr_csiN {b : ByteArray} {maxL : Nat} {ret2 : Option FieldType} {lev2 na n : Nat} {y : MethodName} {of : Option Int32} {ko : Int32 → Option ρ} {st0 : List Value} (As : List Value) (hd : decode cc pc = .ok (.invokestatic 108, 3)) (hn : pc + 3 = n) (ho : own = "QuietTake$Reader") (hy : y = ⟨"QuietTake", "within", "(III)Z"⟩) (cv : (Cond.static y ∈ gw_tbl ∧ Cond.initialized y.cls ∈ gw_tbl ∧ Cond.code y b maxL ret2 ∈ gw_tbl) ∧ (y.cls ≠ "java/lang/invoke/MethodHandle" ∧ y.cls ≠ "java/lang/invoke/VarHandle" ∧ (parseMethodDescriptor y.desc).map (fun d => d.parameters.length) = some na)) (hna : As.length = na) (hst : st0 = As.reverse ++ st) (hsum : (st.map fun v => v.category).sum ≤ 8) (hlev : Nat.ble (lev2 + 1) lev = true) (hmax : Nat.ble maxL 45 = true) (hc : ∀ r2 : Int32, of = some r2 → Cn G L y b maxL ret2 lev2 As S (qe_i S r2))
    (k : ∀ x : Int32, VVx cx sx G L X own cc nL ret lev emb n lv (.int x :: st) S (ko x)) : VVx cx sx G L X own cc nL ret lev emb pc lv st0 S (of.bind ko) := by
  subst hn
  subst hst
  subst ho
  intro r hr ok H locs ls hP hS hl
  cases hof : of with
  | none => rw [hof] at hr; cases hr
  | some r2 =>
    rw [hof] at hr
    obtain ⟨hx, hb, hml, hown, hts⟩ := ok.1
    have h1 := Nat.le_of_ble_eq_true hlev
    have h2 := Nat.le_of_ble_eq_true hmax
    refine qv_after (va_runSN (As := As) (rest := st) (host := "QuietTake") ⟨hx, hb, hml, hown, hts⟩ (hc r2 hof) ⟨va_cnB na hts (gw_ws cv.1.2.2) rfl rfl rfl (by rw [hy]; exact ok.2.2.2.2.2.2.2.2.2.2) (hts _ cv.1.2.1) cv.2 ⟨h1, by simp only [qv_room, qv_roomx]; omega⟩, hts _ cv.1.1, trivial⟩ ⟨qv_blind, fun U hU hW => ⟨rfl, ok.2.2.2.2.1, by rw [hU]; exact hP, va_K.moved hW.alike ok.2.2.2.1, qv_ro_go ok.2.2.2.2.2 hS hU hW⟩⟩ rfl hna hl.1 rfl (lv_room hsum) hd ⟨Nat.le_refl _, Nat.le_refl _⟩) hS (fun H1 locs1 hP1 hS1 => ?_)
    exact k r2 r hr ok H1 locs1 ls hP1 hS1 hl
end QVX
end
section
/-! VC: constructors. All that is made since the object itself lies from its address B on, cell by cell in the order of making. -/
def qc_wd (B : Nat) (es : List va_E) : va_W := es.mapIdx (fun k e => (B + k, e))
def qc_A (B : Nat) : Nat → Prop := fun q => B ≤ q
def qc_ad (B : Nat) (ax : Nat → Nat) : Nat → Nat := fun q => if q < 1000 then B + q else ax q
def qc_es (ad : Nat → Nat) (cy : Nat → ClassId) (L : List qv_Lc) (S : qv_St) : List va_E := L.mapIdx (fun q c => qv_cell ad cy S q c)
/-- what a constructor needs of the tables beyond the words: links to the nest's private constructors, the class of arrays of State, the two texts -/
def qc_ro (ax : Nat → Nat) (A : Nat → Prop) (U : State) : Prop :=
  (vk_S 2 qv_len qv_byt (fun i => ax (1000 + i)) (fun i => ax (2000 + i)) A U U.heap ∧ vk_R "QuietTake$Tokens" 66 qv_s0 (ax 1000) U ∧ vk_R "QuietTake$Tokens" 77 qv_s1 (ax 1001) U ∧ va_Z "java/lang/String" "COMPACT_STRINGS" "Z" (.int 1) A U U.heap ∧ va_Z "jdk/internal/util/Preconditions" "SIOOBE_FORMATTER" "Ljava/util/function/BiFunction;" (if ax 3001 = 0 then .null else .ref (ax 3000)) A U U.heap ∧ va_Nw (.methodLinkNest "QuietTake$Reader" 108 ⟨"QuietTake", "within", "(III)Z"⟩ "QuietTake") U) ∧
  va_Nw (.methodLinkNest "QuietTake" 9 ⟨"QuietTake$Tape", "<init>", "()V"⟩ "QuietTake") U ∧ va_Nw (.methodLinkNest "QuietTake" 18 ⟨"QuietTake$Tokens", "<init>", "()V"⟩ "QuietTake") U ∧ va_Nw (.methodLinkNest "QuietTake$Script" 42 ⟨"QuietTake$Law", "<init>", "()V"⟩ "QuietTake") U ∧ va_Nw (.methodLinkNest "QuietTake" 41 ⟨"QuietTake$State", "<init>", "()V"⟩ "QuietTake") U ∧ va_Nw (.methodLinkNest "QuietTake$History" 15 ⟨"QuietTake$State", "<init>", "()V"⟩ "QuietTake") U ∧ va_AO "QuietTake$State" U
theorem qc_ro_go {ax : Nat → Nat} {A A' : Nat → Prop} {s U : State} {H : Heap} {locs : List Loc} (h : qc_ro ax A s) (hS : va_S A s.heap H locs) (hU : U.heap = H) (hW : s.WarmedH U.vm) (hA : ∀ q, A' q → A q) : qc_ro ax A' U := by
  obtain ⟨⟨h1, h2, h3, h4, h5, h6⟩, g1, g2, g3, g4, g5, g6⟩ := h
  exact ⟨⟨by rw [hU]; exact ((h1.kept hS.2.1).moved hW.alike).narrow hA, h2.warm hW, h3.warm hW, by rw [hU]; exact ((h4.kept hS.2.1).moved hW.alike).narrow hA, by rw [hU]; exact ((h5.kept hS.2.1).moved hW.alike).narrow hA, h6.warmM hW⟩, g1.warmM hW, g2.warmM hW, g3.warmM hW, g4.warmM hW, g5.warmM hW, g6.moved hW.alike⟩
theorem qc_ro_blind {ax : Nat → Nat} {A : Nat → Prop} {U : State} {g : JFrame} {mk : MethodId} {a : Array Value} (h : qc_ro ax A U) : qc_ro ax A (U.calling g mk a) := by
  obtain ⟨⟨h1, h2, h3, h4, h5, h6⟩, g1, g2, g3, g4, g5, g6⟩ := h
  exact ⟨⟨vk_S.moved (u := U) (U := U.calling g mk a) (Vm.Alike.refl U.vm) h1, vk_R.same (u := U) (U := U.calling g mk a) rfl h2, vk_R.same (u := U) (U := U.calling g mk a) rfl h3, va_Z.moved (u := U) (U := U.calling g mk a) (Vm.Alike.refl U.vm) h4, va_Z.moved (u := U) (U := U.calling g mk a) (Vm.Alike.refl U.vm) h5, va_Nw.same rfl (u := U) (U := U.calling g mk a) rfl h6⟩, va_Nw.same rfl (u := U) (U := U.calling g mk a) rfl g1, va_Nw.same rfl (u := U) (U := U.calling g mk a) rfl g2, va_Nw.same rfl (u := U) (U := U.calling g mk a) rfl g3, va_Nw.same rfl (u := U) (U := U.calling g mk a) rfl g4, va_Nw.same rfl (u := U) (U := U.calling g mk a) rfl g5, va_AO.moved (u := U) (U := U.calling g mk a) (Vm.Alike.refl U.vm) g6⟩
theorem qc_at {B k : Nat} {es : List va_E} {e : va_E} (h : es[k]? = some e) : (qc_wd B es)[k]? = some (B + k, e) := by simp [qc_wd, h]
theorem qc_at_inv {B k : Nat} {es : List va_E} {z : Nat × va_E} (h : (qc_wd B es)[k]? = some z) : k < es.length ∧ z.1 = B + k ∧ es[k]? = some z.2 := by
  rw [qc_wd, List.getElem?_mapIdx] at h
  cases hq : es[k]? with
  | none => rw [hq] at h; cases h
  | some c =>
    rw [hq] at h
    cases h
    exact ⟨(List.getElem?_eq_some_iff.mp hq).1, rfl, rfl⟩
theorem qc_D {B : Nat} {es : List va_E} : va_D (qc_A B) (qc_wd B es) := by
  refine ⟨fun i j p q hi hj e => ?_, fun k q hk => ?_⟩
  · have h1 := (qc_at_inv hi).2.1
    have h2 := (qc_at_inv hj).2.1
    omega
  · have h1 := (qc_at_inv hk).2.1
    show B ≤ q.1
    omega
theorem qc_set {B k : Nat} {es : List va_E} {e : va_E} : (qc_wd B es).set k (B + k, e) = qc_wd B (es.set k e) := by
  apply List.ext_getElem?
  intro i
  by_cases hi : i = k
  · subst hi
    by_cases hl : i < es.length
    · rw [List.getElem?_set_self (by simp [qc_wd]; exact hl)]
      rw [qc_wd, List.getElem?_mapIdx, List.getElem?_set_self hl]
      rfl
    · simp [qc_wd, hl]
  · rw [List.getElem?_set_ne (Ne.symm hi)]
    simp [qc_wd, List.getElem?_set_ne (Ne.symm hi)]
theorem qc_push {D : va_G} {B : Nat} {es : List va_E} {e : va_E} {H H1 : Heap} (hP : va_P D vwCl (qc_wd B es) H) (hz : H.size = B + es.length) (ho : ∀ q, q < H.size → H1[q]? = H[q]?) (he : va_at D vwCl (H.size, e) H1) : va_P D vwCl (qc_wd B (es ++ [e])) H1 := by
  intro k z hk
  obtain ⟨h1, h2, h3⟩ := qc_at_inv hk
  obtain ⟨a, e1⟩ := z
  dsimp only at h2 h3
  subst h2
  by_cases hl : k < es.length
  · rw [List.getElem?_append_left hl] at h3
    exact (hP k _ (qc_at h3)).kept (ho _ (by dsimp only; omega))
  · rw [List.getElem?_append_right (by omega)] at h3
    rw [List.length_append, List.length_singleton] at h1
    rw [show k - es.length = 0 by omega] at h3
    cases h3
    rw [show B + k = H.size by omega]
    exact he
theorem qc_wd_es {B : Nat} {ax : Nat → Nat} {cy : Nat → ClassId} {L : List qv_Lc} {S : qv_St} (hL : L.length ≤ 1000) : qc_wd B (qc_es (qc_ad B ax) cy L S) = qv_wd (qc_ad B ax) cy L S := by
  apply List.ext_getElem?
  intro i
  simp only [qc_wd, qc_es, qv_wd, List.getElem?_mapIdx]
  cases h : L[i]? with
  | none => rfl
  | some c =>
    have hi := (List.getElem?_eq_some_iff.mp h).1
    simp [qc_ad, show i < 1000 by omega]
def qc_ok (D : va_G) (cy ax : Nat → Nat) (B : Nat) (X : qv_XT) (own : String) (cc : ByteArray) (nL : Nat) : Prop :=
  (X.1.tables.exec = Jvm.exec ∧ X.2.2.2.2.2.2.2.code = cc ∧ X.2.2.2.2.2.2.2.maxLocals = nL ∧ X.2.2.1.vm.findClass own = some X.2.2.2.1.cls ∧ ∀ w ∈ gw_tbl, w.before X.2.2.2.2.1 X.2.2.1 = true) ∧ X.2.2.2.2.2.2.1.sig.returnType = none ∧ X.2.2.2.2.2.2.1.locks = false ∧ va_K D vwCl (qv_tys cy) X.2.2.1 ∧ X.2.2.2.2.2.2.1.name = "<init>" ∧ qc_ro ax (qc_A B) X.2.2.1
def VC (l : Launch) (D : va_G) (cy ax : Nat → Nat) (B : Nat) (X : qv_XT) (own : String) (cc : ByteArray) (nL lev cN sN : Nat) (pc : Nat) (lv : List (Nat × Value)) (st : List Value) (es : List va_E) (c0 s0 : Nat) (Q : State → Prop) : Prop :=
  qc_ok D cy ax B X own cc nL → ∀ (H : Heap) (locs : List Loc) (ls : Array Slot), va_P D vwCl (qc_wd B es) H → H.size = B + es.length → X.2.2.1.heap.size + c0 = B + es.length → va_S (qc_A B) X.2.2.1.heap H locs → lv_has ls nL lv → W X.1 l X.2.1 (qv_roomx cN sN lev) X.2.2.1 X.2.2.2.1 X.2.2.2.2.1 X.2.2.2.2.2.1 X.2.2.2.2.2.2.1 X.2.2.2.2.2.2.2 H locs c0 s0 Q (F0 X.2.2.2.1 pc ls st)
def qc_Q (D : va_G) (B : Nat) (d' : List va_E) : Array Value → State → Outcome → State → Prop := fun _ st oc t => oc = .returned none ∧ t.heap.size = B + d'.length ∧ va_P D vwCl (qc_wd B d') t.heap ∧ va_F (qc_A B) st t
def qc_Pc (D : va_G) (cy ax : Nat → Nat) (B : Nat) (d : List va_E) (av : List Value) : Array Value → State → Prop := va_Pc av (fun U => U.heap.size = B + d.length ∧ va_P D vwCl (qc_wd B d) U.heap ∧ va_K D vwCl (qv_tys cy) U ∧ qc_ro ax (qc_A B) U)
def Kc (l : Launch) (D : va_G) (cy ax : Nat → Nat) (y : MethodName) (b : ByteArray) (maxL lev cN sN : Nat) (av : List Value) (B : Nat) (d d' : List va_E) : Prop := Met l y (qv_ws y b maxL none) (qv_roomx cN sN lev) (qc_Pc D cy ax B d av) (qc_Q D B d') cN sN (qc_A B)
theorem kc_of {l : Launch} {D : va_G} {cy ax : Nat → Nat} {y : MethodName} {b : ByteArray} {maxL lev cN sN : Nat} {av : List Value} {B : Nat} {d d' : List va_E} {lv : List (Nat × Value)} {own : String} (ho : y.cls = own) (hi : y.name = "<init>") (hy : plainName y.cls = true) (hlen : (lg_sl av).length ≤ maxL) (hlv : lv_args 0 av = lv) (hd : d.length = 1)
    (vc : ∀ X : qv_XT, X.2.2.1.heap.size = B + 1 → VC l D cy ax B X own b maxL lev cN sN 0 lv [] d 0 0 (MQ X.2.2.2.2.2.1 (qc_Q D B d') X.2.2.2.2.1 X.2.2.1 cN sN (qc_A B))) : Kc l D cy ax y b maxL lev cN sN av B d d' := by
  subst hlv
  subst ho
  refine Met.ofW (cc := b) (maxL := maxL) (ret := none) hy rfl ?_
  intro p e s m args below meth c s₁ Bd hml hv
  obtain ⟨rfl, hsz, hP, hK, hro⟩ := hv
  have hts := atoms_spec (ws := qv_ws y b maxL none) Bd.pre
  have hown : s.vm.findClass y.cls = some m.cls := findClass_of_methodNamed Bd.named
  have hl := lv_entry av hlen
  rw [lg_entry_eq]
  exact vc (p, e, s, m, av.toArray, below, meth, c) (by rw [hsz, hd]) ⟨⟨Bd.exec, Bd.bytes, hml, hown, fun w h => hts w (List.mem_cons_of_mem _ h)⟩, Bd.returns, Bd.notSynchronized, hK, (name_of_methodNamed Bd.named Bd.method).1.trans hi, hro⟩ s.heap [] _ hP hsz hsz va_S.rf hl
theorem qc_sz {p : Program} {l : Launch} {e : Env} {R : Room} {s : State} {m : MethodId} {args : Array Value} {below : List Frame} {meth : Method} {c : Code} {H : Heap} {locs : List Loc} {c0 s0 : Nat} {Q : State → Prop} {g : JFrame} {D : va_G} {B i : Nat} {es : List va_E} (hP : va_P D vwCl (qc_wd B es) H) (hi : i < es.length) (hc : s.heap.size + c0 = B + es.length) (k : H.size = B + es.length → W p l e R s m args below meth c H locs c0 s0 Q g) : W p l e R s m args below meth c H locs c0 s0 Q g := by
  intro T hT X
  refine k ?_ T hT X
  have h1 : T.heap.size ≤ s.heap.size + c0 := X.same.2.2.1
  have h2 : (qc_wd B es)[es.length - 1]? = some (B + (es.length - 1), es[es.length - 1]) := qc_at (List.getElem?_eq_getElem (by omega))
  have h3 := (hP _ _ h2).lt
  dsimp only at h3
  rw [hT] at h1
  omega
theorem qc_locs {p : Program} {l : Launch} {e : Env} {R : Room} {s : State} {m : MethodId} {args : Array Value} {below : List Frame} {meth : Method} {c : Code} {H : Heap} {locs locs2 : List Loc} {c0 s0 : Nat} {Q : State → Prop} {g : JFrame} (h : ∀ q ∈ locs, q.base < s.heap.size → q ∈ locs2) (k : W p l e R s m args below meth c H locs2 c0 s0 Q g) : W p l e R s m args below meth c H locs c0 s0 Q g := by
  intro T hT X
  refine k T hT { X with same := ?_ }
  obtain ⟨h1, h2, h3, h4, h5, h6⟩ := X.same
  refine ⟨h1, h2, h3, h4, h5, fun a c ha => ?_⟩
  obtain ⟨c', g1, g2, g3, g4⟩ := h6 a c ha
  exact ⟨c', g1, g2, g3, fun i hi => g4 i (fun z => hi (h _ z (Array.getElem?_eq_some_iff.mp ha).1))⟩
theorem qc_mono {p : Program} {l : Launch} {e : Env} {R : Room} {s : State} {m : MethodId} {args : Array Value} {below : List Frame} {meth : Method} {c : Code} {H : Heap} {locs : List Loc} {c0 s0 : Nat} {Q Q2 : State → Prop} {g : JFrame} (h : ∀ t, Q2 t → Q t) (k : W p l e R s m args below meth c H locs c0 s0 Q2 g) : W p l e R s m args below meth c H locs c0 s0 Q g := by
  intro T hT X
  obtain ⟨t, a, b⟩ := k T hT X
  exact ⟨t, a, h t b⟩
theorem qc_shift {D : va_G} {B B2 : Nat} {w d : List va_E} {H : Heap} (hB : B + w.length = B2) (hP : va_P D vwCl (qc_wd B (w ++ d)) H) : va_P D vwCl (qc_wd B2 d) H := by
  intro k z hk
  obtain ⟨h1, h2, h3⟩ := qc_at_inv hk
  obtain ⟨a, e1⟩ := z
  dsimp only at h2 h3
  subst h2
  have h4 : (w ++ d)[w.length + k]? = some e1 := by rw [List.getElem?_append_right (by omega), show w.length + k - w.length = k by omega]; exact h3
  have h5 := hP _ _ (qc_at (B := B) h4)
  rw [show B + (w.length + k) = B2 + k by omega] at h5
  exact h5
theorem qc_join {D : va_G} {B B2 : Nat} {w d d2 : List va_E} {H H1 : Heap} (hB : B + w.length = B2) (hP : va_P D vwCl (qc_wd B (w ++ d)) H) (hk : ∀ q, q < B2 → H1[q]? = H[q]?) (hP1 : va_P D vwCl (qc_wd B2 d2) H1) : va_P D vwCl (qc_wd B (w ++ d2)) H1 := by
  intro k z hk2
  obtain ⟨h1, h2, h3⟩ := qc_at_inv hk2
  obtain ⟨a, e1⟩ := z
  dsimp only at h2 h3
  subst h2
  by_cases hl : k < w.length
  · rw [List.getElem?_append_left hl] at h3
    have h4 : (w ++ d)[k]? = some e1 := by rw [List.getElem?_append_left hl]; exact h3
    exact (hP _ _ (qc_at h4)).kept (hk _ (by dsimp only; omega))
  · rw [List.getElem?_append_right (by omega)] at h3
    have h5 := hP1 _ _ (qc_at (B := B2) h3)
    rw [show B2 + (k - w.length) = B + k by omega] at h5
    exact h5
section QCR
variable {l : Launch} {D : va_G} {cy ax : Nat → Nat} {B : Nat} {X : qv_XT} {own : String} {cc : ByteArray} {nL lev cN sN : Nat} {pc : Nat} {lv : List (Nat × Value)} {st : List Value} {es : List va_E} {c0 s0 : Nat} {Q : State → Prop}
theorem qc_obj {idx n a : Nat} (hd : decode cc pc = .ok (.invokespecial idx, 3)) (hn : pc + 3 = n) (hw : Cond.methodLink own idx Lib.objectInit ∈ gw_tbl) (hw2 : Cond.instanceMethod Lib.objectInit ∈ gw_tbl) (hw3 : Cond.code Lib.objectInit ⟨#[0xb1]⟩ 1 none ∈ gw_tbl) (hlev : Nat.ble 1 lev = true) (hsum : (st.map fun v => v.category).sum ≤ 8) (k : VC l D cy ax B X own cc nL lev cN sN n lv st es c0 s0 Q) : VC l D cy ax B X own cc nL lev cN sN pc lv (.ref a :: st) es c0 s0 Q := by
  subst hn
  intro ok H locs ls hP hz hc hS hl
  obtain ⟨hx, hb, hml, hown, hts⟩ := ok.1
  have h1 := Nat.le_of_ble_eq_true hlev
  refine W.objInit hx hb hown (hts _ hw) (hts _ hw2) (hts _ hw3) rfl (by rw [hml]; exact hl.1) rfl hd h1 ?_ (k ok H locs ls hP hz hc hS hl)
  have h2 := lv_room (m := X.2.2.2.1) (pc := pc) (ls := ls) (rest := .ref a :: st) hsum
  simp only [qv_roomx]
  omega
theorem qc_aload_n {q : Fin 4} {x n : Nat} (j : Nat) (hd : decode cc pc = .ok (.aload_n q, 1)) (hn : pc + 1 = n) (hj : lv[j]? = some ((q : Nat), .ref x)) (k : VC l D cy ax B X own cc nL lev cN sN n lv (.ref x :: st) es c0 s0 Q) : VC l D cy ax B X own cc nL lev cN sN pc lv st es c0 s0 Q := by
  subst hn
  intro ok H locs ls hP hz hc hS hl
  exact lv_aload_n ok.1.1 ok.1.2.1 hd rfl (lv_at hl j hj) (k ok H locs ls hP hz hc hS hl)
theorem qc_iload_n {q : Fin 4} {x : Int32} {n : Nat} (j : Nat) (hd : decode cc pc = .ok (.iload_n q, 1)) (hn : pc + 1 = n) (hj : lv[j]? = some ((q : Nat), .int x)) (k : VC l D cy ax B X own cc nL lev cN sN n lv (.int x :: st) es c0 s0 Q) : VC l D cy ax B X own cc nL lev cN sN pc lv st es c0 s0 Q := by
  subst hn
  intro ok H locs ls hP hz hc hS hl
  exact lv_iload_n ok.1.1 ok.1.2.1 hd rfl (lv_at hl j hj) (k ok H locs ls hP hz hc hS hl)
theorem qc_iconst {a : Int} (v : Int32) {n : Nat} (hd : decode cc pc = .ok (.iconst a, 1)) (hn : pc + 1 = n) (hv : Int32.ofInt a = v) (k : VC l D cy ax B X own cc nL lev cN sN n lv (.int v :: st) es c0 s0 Q) : VC l D cy ax B X own cc nL lev cN sN pc lv st es c0 s0 Q := by
  subst hn
  intro ok H locs ls hP hz hc hS hl
  exact lv_iconst ok.1.1 ok.1.2.1 hd hv (k ok H locs ls hP hz hc hS hl)
theorem qc_bipush {a : Int} (v : Int32) {n : Nat} (hd : decode cc pc = .ok (.bipush a, 2)) (hn : pc + 2 = n) (hv : (Int8.ofInt a).toInt32 = v) (k : VC l D cy ax B X own cc nL lev cN sN n lv (.int v :: st) es c0 s0 Q) : VC l D cy ax B X own cc nL lev cN sN pc lv st es c0 s0 Q := by
  subst hn
  intro ok H locs ls hP hz hc hS hl
  exact lv_bipush ok.1.1 ok.1.2.1 hd hv (k ok H locs ls hP hz hc hS hl)
theorem qc_sipush {a : Int} (v : Int32) {n : Nat} (hd : decode cc pc = .ok (.sipush a, 3)) (hn : pc + 3 = n) (hv : (Int16.ofInt a).toInt32 = v) (k : VC l D cy ax B X own cc nL lev cN sN n lv (.int v :: st) es c0 s0 Q) : VC l D cy ax B X own cc nL lev cN sN pc lv st es c0 s0 Q := by
  subst hn
  intro ok H locs ls hP hz hc hS hl
  exact lv_sipush ok.1.1 ok.1.2.1 hd hv (k ok H locs ls hP hz hc hS hl)
theorem qc_dup {va : Value} {n : Nat} (hd : decode cc pc = .ok (.dup, 1)) (hn : pc + 1 = n) (hv : va.category = 1) (k : VC l D cy ax B X own cc nL lev cN sN n lv (va :: va :: st) es c0 s0 Q) : VC l D cy ax B X own cc nL lev cN sN pc lv (va :: st) es c0 s0 Q := by
  subst hn
  intro ok H locs ls hP hz hc hS hl
  exact lv_dup ok.1.1 ok.1.2.1 hd hv (k ok H locs ls hP hz hc hS hl)
theorem qc_istore_n {f : Fin 4} {i : Nat} {x : Int32} {n : Nat} {lv2 : List (Nat × Value)} (ks : List Nat) (hd : decode cc pc = .ok (.istore_n f, 1)) (hn : pc + 1 = n) (hf : (f : Nat) = i) (hi : i < nL) (hs : lv_pick ((i, Value.int x) :: lv.filter (fun q => !(q.1 == i) && !(q.1 + 1 == i && q.2.category == 2))) ks = lv2) (k : VC l D cy ax B X own cc nL lev cN sN n lv2 st es c0 s0 Q) : VC l D cy ax B X own cc nL lev cN sN pc lv (.int x :: st) es c0 s0 Q := by
  subst hn
  intro ok H locs ls hP hz hc hS hl
  exact lv_istore_n ok.1.1 ok.1.2.1 hd hf hl hi rfl (fun ls2 hl2 => k ok H locs ls2 hP hz hc hS (lv_sub hl2 ks hs))
theorem qc_iinc {i : Nat} {a : Int} {x v : Int32} {n : Nat} {lv2 : List (Nat × Value)} (j : Nat) (ks : List Nat) (hd : decode cc pc = .ok (.iinc i a, 3)) (hn : pc + 3 = n) (hj : lv[j]? = some (i, .int x)) (hv : x + Int32.ofInt a = v) (hi : i < nL) (hs : lv_pick ((i, Value.int v) :: lv.filter (fun q => !(q.1 == i) && !(q.1 + 1 == i && q.2.category == 2))) ks = lv2) (k : VC l D cy ax B X own cc nL lev cN sN n lv2 st es c0 s0 Q) : VC l D cy ax B X own cc nL lev cN sN pc lv st es c0 s0 Q := by
  subst hn
  intro ok H locs ls hP hz hc hS hl
  exact lv_iinc ok.1.1 ok.1.2.1 hd hl hj hv hi rfl (fun ls2 hl2 => k ok H locs ls2 hP hz hc hS (lv_sub hl2 ks hs))
theorem qc_goto {off : Int} {n : Nat} (hd : decode cc pc = .ok (.goto off, 3)) (hn : (pc : Int) + off = (n : Int)) (k : VC l D cy ax B X own cc nL lev cN sN n lv st es c0 s0 Q) : VC l D cy ax B X own cc nL lev cN sN pc lv st es c0 s0 Q := by
  intro ok H locs ls hP hz hc hS hl
  exact lv_goto ok.1.1 ok.1.2.1 hd hn (k ok H locs ls hP hz hc hS hl)
theorem qc_icmp_ge {x y : Int32} {off : Int} {t n : Nat} (hd : decode cc pc = .ok (.if_icmp .ge off, 3)) (ht : (pc : Int) + off = (t : Int)) (hn : pc + 3 = n) (kt : y ≤ x → VC l D cy ax B X own cc nL lev cN sN t lv st es c0 s0 Q) (kf : ¬ y ≤ x → VC l D cy ax B X own cc nL lev cN sN n lv st es c0 s0 Q) : VC l D cy ax B X own cc nL lev cN sN pc lv (.int y :: .int x :: st) es c0 s0 Q := by
  subst hn
  intro ok H locs ls hP hz hc hS hl
  exact lv_icmp_ge ok.1.1 ok.1.2.1 hd ht (fun h => kt h ok H locs ls hP hz hc hS hl) (fun h => kf h ok H locs ls hP hz hc hS hl)
theorem qc_new {idx ci N n r : Nat} {C : String} {T : u_T} (ty : Nat → FieldType) (fs : List Value) (hd : decode cc pc = .ok (.new idx, 3)) (hn : pc + 3 = n) (hcl : vwCl[ci]? = some (C, T, N)) (hin : ∀ w ∈ u_ws C T N, w ∈ gw_tbl) (hty : ∀ k, k < N → parseFieldDescriptor (T k).2.2.1 = some (ty k)) (hfs : ∀ j, j < N → defaultValue (ty j) = vp_V fs j) (hw1 : Cond.classLink own idx C ∈ gw_tbl) (hw2 : Cond.instantiable C N ∈ gw_tbl) (hw3 : Cond.initialized C ∈ gw_tbl) (hc1 : Nat.ble (c0 + 1) cN = true) (hs1 : Nat.ble (s0 + N) sN = true) (hr : es.length = r) (k : VC l D cy ax B X own cc nL lev cN sN n lv (.ref (B + r) :: st) (es ++ [.inr (ci, fs)]) (c0 + 1) (s0 + N) Q) : VC l D cy ax B X own cc nL lev cN sN pc lv st es c0 s0 Q := by
  subst hn
  subst hr
  intro ok H locs ls hP hz hc hS hl
  obtain ⟨hx, hb, hml, hown, hts⟩ := ok.1
  have hKn := ok.2.2.2.1.1 ci _ hcl
  refine W.newcK hx hb hown (hts _ hw1) (hts _ hw2) (hts _ hw3) rfl hd (Nat.le_of_ble_eq_true hc1) (Nat.le_of_ble_eq_true hs1) hKn.2.1 hz fun H1 kC hkC e1 z1 o1 => ?_
  refine k ok H1 locs ls (qc_push hP hz (by rw [hz]; exact o1) ?_) (by rw [z1, List.length_append]; rfl) (by rw [List.length_append, List.length_singleton]; omega) ⟨by have := hS.1; omega, fun q h1 h2 => (o1 q (by have := hS.1; omega)).trans (hS.2.1 q h1 h2), hS.2.2⟩ hl
  rw [hz]
  exact ⟨_, hcl, (u_born ty hts hin hKn hkC e1 hty).to hfs⟩
theorem qc_arr (t : Nat) {ty : FieldType} {atype : ArrayType} {v : Int32} {N n r : Nat} (a0 : vp_A) (hd : decode cc pc = .ok (.newarray atype, 2)) (hn : pc + 2 = n) (hat : newarray.typeOf atype = ty) (hw : Cond.arrayClass ty ∈ gw_tbl) (htt : (qv_tys cy)[t]? = some (cy t, ty)) (hra : ∀ U : State, va_RA U (cy t) ty → U.vm.findClass ("[" ++ ty.toString) = some (cy t)) (ha : ∀ cA : ClassId, vp_cell cA a0 = arrV cA N (fun _ => defaultValue ty)) (hv0 : ¬ v < 0) (hvN : v.toNatClampNeg = N) (hby : N * componentBytes ty ≤ 536870912) (hc1 : Nat.ble (c0 + 1) cN = true) (hs1 : Nat.ble (s0 + N) sN = true) (hr : es.length = r) (k : VC l D cy ax B X own cc nL lev cN sN n lv (.ref (B + r) :: st) (es ++ [.inl (cy t, a0)]) (c0 + 1) (s0 + N) Q) : VC l D cy ax B X own cc nL lev cN sN pc lv (.int v :: st) es c0 s0 Q := by
  subst hn
  subst hr
  subst hat
  intro ok H locs ls hP hz hc hS hl
  obtain ⟨hx, hb, hml, hown, hts⟩ := ok.1
  refine va_newaK hx hb (hts _ hw) rfl hd rfl hv0 hvN hby (Nat.le_of_ble_eq_true hc1) (Nat.le_of_ble_eq_true hs1) hz fun H1 cA e1 z1 o1 hAr hNm => ?_
  have hcA : cA = cy t := Option.some.inj (hNm.symm.trans (hra _ (ok.2.2.2.1.2 t _ htt).2))
  subst hcA
  refine k ok H1 locs ls (qc_push hP hz (by rw [hz]; exact o1) ?_) (by rw [z1, List.length_append]; rfl) (by rw [List.length_append, List.length_singleton]; omega) ⟨by have := hS.1; omega, fun q h1 h2 => (o1 q (by have := hS.1; omega)).trans (hS.2.1 q h1 h2), hS.2.2⟩ hl
  show H1[H.size]? = some (vp_cell _ _)
  rw [ha, hz]
  exact e1
theorem qc_arrq {idx : Nat} {v : Int32} {N n r : Nat} (hd : decode cc pc = .ok (.anewarray idx, 3)) (hn : pc + 3 = n) (hw : Cond.classLink own idx "QuietTake$State" ∈ gw_tbl) (hv0 : ¬ v < 0) (hvN : v.toNatClampNeg = N) (hby : N * 4 ≤ 536870912) (hc1 : Nat.ble (c0 + 1) cN = true) (hs1 : Nat.ble (s0 + N) sN = true) (hr : es.length = r) (k : VC l D cy ax B X own cc nL lev cN sN n lv (.ref (B + r) :: st) (es ++ [.inl (cy 4, N, .inr (.inr (.inr (.inr (fun _ => none)))))]) (c0 + 1) (s0 + N) Q) : VC l D cy ax B X own cc nL lev cN sN pc lv (.int v :: st) es c0 s0 Q := by
  subst hn
  subst hr
  subst hvN
  intro ok H locs ls hP hz hc hS hl
  obtain ⟨hx, hb, hml, hown, hts⟩ := ok.1
  refine W.anew hx hb hown (hts _ hw) (va_AO.use ok.2.2.2.2.2.2.2.2.2.2.2) rfl hd rfl hv0 hby (Nat.le_of_ble_eq_true hc1) (Nat.le_of_ble_eq_true hs1) fun cA kA comp f1 f2 f3 f4 => ?_
  generalize hH1 : H.push ({ cls := cA, slots := Array.replicate v.toNatClampNeg .null, vm := .none } : Cell) = H1
  have z1 : H1.size = H.size + 1 := by rw [← hH1, Array.size_push]
  have e1 : H1[H.size]? = some (arrV cA v.toNatClampNeg (fun _ => .null)) := by rw [← hH1, Array.getElem?_push_size, ← arrV_new]
  have o1 : ∀ q : Nat, q < H.size → H1[q]? = H[q]? := fun q hq => by rw [← hH1, Array.getElem?_push, if_neg (Nat.ne_of_lt hq)]
  obtain ⟨kA2, comp2, r1, r2, r3, r4⟩ := (ok.2.2.2.1.2 4 _ rfl).2
  have hcA : cA = cy 4 := by
    have := f1.symm.trans r4
    exact Option.some.inj this
  subst hcA
  rw [hz]
  refine k ok H1 locs ls (qc_push hP hz o1 ?_) (by rw [z1, List.length_append, hz]; rfl) (by rw [List.length_append, List.length_singleton]; omega) ⟨by have := hS.1; omega, fun q h1 h2 => (o1 q (by have := hS.1; omega)).trans (hS.2.1 q h1 h2), hS.2.2⟩ hl
  show H1[H.size]? = some (vp_cell _ _)
  rw [e1]
  rfl
theorem qc_put (i j : Nat) {ci : Nat} {T : u_T} {N idx : Nat} {C : String} {ty0 : Nat → FieldType} {v : Value} {n : Nat} {fs : List Value} {es2 : List va_E} (hd : decode cc pc = .ok (.putfield idx, 3)) (hn : pc + 3 = n) (hq : es[i]? = some (.inr (ci, fs))) (hc : vwCl[ci]? = some (C, T, N)) (hin : ∀ w ∈ u_ws C T N, w ∈ gw_tbl) (hk : j < N) (hw : Cond.fieldLink own idx (T j).1 (T j).2.1 (T j).2.2.1 ∈ gw_tbl) (hl1 : j < fs.length) (hty : ∀ k, k < N → parseFieldDescriptor (T k).2.2.1 = some (ty0 k)) (hnm : ∀ a, a < N → ∀ b, b < N → a ≠ b → (T a).2.1 ≠ (T b).2.1) (hfin : (T j).2.2.2 = false) (hi1 : narrow (ty0 j) v = v) (hi2 : fits (ty0 j) v = true) (hes : es.set i (.inr (ci, fs.set j v)) = es2) (k : VC l D cy ax B X own cc nL lev cN sN n lv st es2 c0 s0 Q) : VC l D cy ax B X own cc nL lev cN sN pc lv (v :: .ref (B + i) :: st) es c0 s0 Q := by
  subst hn
  subst hes
  intro ok H locs ls hP hz hcz hS hl
  obtain ⟨hx, hb, hml, hown, hts⟩ := ok.1
  refine va_put hx hb hts hin ty0 hty hnm hown ok.2.2.2.1 hP qc_D hS i (qc_at hq) hc j hk (hts _ hw) (fun _ h => h) hfin (ty := ty0 j) (v := v) (hty j hk) hi1 hi2 hl1 hd (fun H1 locs1 hP1 hD1 hS1 => ?_)
  rw [qc_set] at hP1
  refine qc_sz hP1 (i := i) (by rw [List.length_set]; exact (List.getElem?_eq_some_iff.mp hq).1) (by rw [List.length_set]; exact hcz) (fun hz1 => ?_)
  exact k ok H1 locs1 ls hP1 hz1 (by rw [List.length_set]; exact hcz) hS1 hl
theorem qc_putF (i j : Nat) {ci : Nat} {T : u_T} {N idx : Nat} {C : String} {ty0 : Nat → FieldType} {v : Value} {n : Nat} {fs : List Value} {es2 : List va_E} (hd : decode cc pc = .ok (.putfield idx, 3)) (hn : pc + 3 = n) (hq : es[i]? = some (.inr (ci, fs))) (hc : vwCl[ci]? = some (C, T, N)) (hin : ∀ w ∈ u_ws C T N, w ∈ gw_tbl) (hk : j < N) (hw : Cond.fieldLink own idx (T j).1 (T j).2.1 (T j).2.2.1 ∈ gw_tbl) (hl1 : j < fs.length) (hty : ∀ k, k < N → parseFieldDescriptor (T k).2.2.1 = some (ty0 k)) (hnm : ∀ a, a < N → ∀ b, b < N → a ≠ b → (T a).2.1 ≠ (T b).2.1) (hfin : (T j).2.2.2 = true) (hdc : (T j).1 = own) (hi1 : narrow (ty0 j) v = v) (hi2 : fits (ty0 j) v = true) (hes : es.set i (.inr (ci, fs.set j v)) = es2) (k : VC l D cy ax B X own cc nL lev cN sN n lv st es2 c0 s0 Q) : VC l D cy ax B X own cc nL lev cN sN pc lv (v :: .ref (B + i) :: st) es c0 s0 Q := by
  subst hn
  subst hes
  intro ok H locs ls hP hz hcz hS hl
  obtain ⟨hx, hb, hml, hown, hts⟩ := ok.1
  refine va_putF hx hb hts hin ty0 hty hnm hown ok.2.2.2.1 hP qc_D hS i (qc_at hq) hc j hk (hts _ hw) (fun _ h => h) hfin ok.2.2.2.2.1 hdc (ty := ty0 j) (v := v) (hty j hk) hi1 hi2 hl1 hd (fun H1 locs1 hP1 hD1 hS1 => ?_)
  rw [qc_set] at hP1
  refine qc_sz hP1 (i := i) (by rw [List.length_set]; exact (List.getElem?_eq_some_iff.mp hq).1) (by rw [List.length_set]; exact hcz) (fun hz1 => ?_)
  exact k ok H1 locs1 ls hP1 hz1 (by rw [List.length_set]; exact hcz) hS1 hl
theorem qc_get (i j : Nat) (v : Value) {ci : Nat} {T : u_T} {N idx : Nat} {C : String} {n : Nat} {fs : List Value} (hd : decode cc pc = .ok (.getfield idx, 3)) (hn : pc + 3 = n) (hq : es[i]? = some (.inr (ci, fs))) (hc : vwCl[ci]? = some (C, T, N)) (hin : ∀ w ∈ u_ws C T N, w ∈ gw_tbl) (hk : j < N) (hw : Cond.fieldLink own idx (T j).1 (T j).2.1 (T j).2.2.1 ∈ gw_tbl) (hv : fs[j]? = some v) (k : VC l D cy ax B X own cc nL lev cN sN n lv (v :: st) es c0 s0 Q) : VC l D cy ax B X own cc nL lev cN sN pc lv (.ref (B + i) :: st) es c0 s0 Q := by
  subst hn
  intro ok H locs ls hP hz hcz hS hl
  obtain ⟨hx, hb, hml, hown, hts⟩ := ok.1
  exact va_get hx hb hts hin hown ok.2.2.2.1 hP i (qc_at hq) hc j hk (hts _ hw) (fun _ h => h) hv hd (k ok H locs ls hP hz hcz hS hl)
theorem qc_aast (i j : Nat) {N : Nat} {f : Nat → Option Nat} {ci : Nat} {vs : List Value} {T : u_T} {M : Nat} {x : Int32} {n : Nat} {es2 : List va_E} (hd : decode cc pc = .ok (.aastore, 1)) (hn : pc + 1 = n) (hq : es[i]? = some (.inl (cy 4, N, .inr (.inr (.inr (.inr f)))))) (hv : es[j]? = some (.inr (ci, vs))) (hc : vwCl[ci]? = some ("QuietTake$State", T, M)) (hx0 : vp_in x N) (hes : es.set i (.inl (cy 4, N, .inr (.inr (.inr (.inr (va_up f x.toNatClampNeg (some (B + j)))))))) = es2) (k : VC l D cy ax B X own cc nL lev cN sN n lv st es2 c0 s0 Q) : VC l D cy ax B X own cc nL lev cN sN pc lv (.ref (B + j) :: .int x :: .ref (B + i) :: st) es c0 s0 Q := by
  subst hn
  subst hes
  intro ok H locs ls hP hz hcz hS hl
  obtain ⟨hx, hb, hml, hown, hts⟩ := ok.1
  refine va_astq hx hb ok.2.2.2.1 hP qc_D hS i 4 j ci (qc_at hq) rfl (qc_at hv) hc hx0 hd (fun H1 locs1 hP1 hD1 hS1 => ?_)
  rw [qc_set] at hP1
  refine qc_sz hP1 (i := i) (by rw [List.length_set]; exact (List.getElem?_eq_some_iff.mp hq).1) (by rw [List.length_set]; exact hcz) (fun hz1 => ?_)
  exact k ok H1 locs1 ls hP1 hz1 (by rw [List.length_set]; exact hcz) hS1 hl
theorem qc_ret (hd : decode cc pc = .ok (.return_, 1)) (hc1 : Nat.ble c0 cN = true) (hs1 : Nat.ble s0 sN = true) : VC l D cy ax B X own cc nL lev cN sN pc lv [] es c0 s0 (MQ X.2.2.2.2.2.1 (qc_Q D B es) X.2.2.2.2.1 X.2.2.1 cN sN (qc_A B)) := by
  intro ok H locs ls hP hz hcz hS hl
  obtain ⟨hx, hb, hml, hown, hts⟩ := ok.1
  refine W.widen (k := cN) (n := sN) (Nat.le_of_ble_eq_true hc1) (Nat.le_of_ble_eq_true hs1) ?_
  exact W.vret hx hb ok.2.1 (fun t ht hW => ⟨rfl, by rw [ht]; exact hz, by rw [ht]; exact hP, hS.F ht⟩) hS.2.2 hd ok.2.2.1
theorem qc_after {y : MethodName} {b : ByteArray} {maxL lev2 cN2 sN2 B2 n : Nat} {w d d2 : List va_E} {As : List Value} (hn : pc + 3 = n) (hes : es = w ++ d) (hB : B + w.length = B2) (hlen : d2.length = d.length + cN2)
    (run : qc_ok D cy ax B X own cc nL → ∀ (H : Heap) (locs : List Loc) (ls : Array Slot), va_P D vwCl (qc_wd B es) H → H.size = B + es.length → va_S (qc_A B) X.2.2.1.heap H locs → lv_has ls nL lv → va_Run X.1 l X.2.1 (qv_roomx cN sN lev) X.2.2.1 X.2.2.2.1 X.2.2.2.2.1 X.2.2.2.2.2.1 X.2.2.2.2.2.2.1 X.2.2.2.2.2.2.2 H locs c0 s0 cN2 sN2 (F0 X.2.2.2.1 pc ls (As.reverse ++ .ref B2 :: st)) st (qc_Q D B2 d2 (Value.ref B2 :: As).toArray) (qc_A B2))
    (k : VC l D cy ax B X own cc nL lev cN sN n lv st (w ++ d2) (c0 + cN2) (s0 + sN2) Q) : VC l D cy ax B X own cc nL lev cN sN pc lv (As.reverse ++ .ref B2 :: st) es c0 s0 Q := by
  subst hn
  subst hes
  intro ok H locs ls hP hz hcz hS hl
  intro T hT XX
  obtain ⟨v, st₀, t, T', Lx, h0, X', hL, e1, e2, ⟨hv, hz2, hP2, hzz, hk⟩, stp⟩ := run ok H locs ls hP hz hS hl T hT XX
  cases hv
  rw [h0] at hzz hk
  rw [List.length_append] at hz hcz
  have hB2 : B2 ≤ H.size := by omega
  obtain ⟨t2, a1, b1⟩ := k ok T'.heap (locs ++ Lx) ls (by rw [e1]; exact qc_join hB hP (fun q hq => hk q (by omega) (by show ¬ B2 ≤ q; omega)) hP2) (by rw [e1, hz2, List.length_append]; omega) (by rw [List.length_append]; omega) ⟨Nat.le_trans hS.1 (by rw [e1]; exact hzz), fun q h1 h2 => by
      have hqB : q < B := by have : ¬ B ≤ q := h2; omega
      rw [e1, hk q (by have := hS.1; omega) (by show ¬ B2 ≤ q; omega)]
      exact hS.2.1 q h1 h2, fun q hq => by
      rcases List.mem_append.mp hq with h | h
      · exact hS.2.2 q h
      · have h9 : B2 ≤ q.base := hL q h
        show B ≤ q.base
        omega⟩ hl T' rfl X'
  exact ⟨t2, stp t2 a1, b1⟩
theorem qc_pre {B2 : Nat} {w d : List va_E} {As : List Value} {H : Heap} {locs : List Loc} (hes : es = w ++ d) (hB : B + w.length = B2) (ok : qc_ok D cy ax B X own cc nL) (hP : va_P D vwCl (qc_wd B es) H) (hz : H.size = B + es.length) (hS : va_S (qc_A B) X.2.2.1.heap H locs) : PreS X.2.2.1 H (qc_Pc D cy ax B2 d (.ref B2 :: As)) (.ref B2 :: As) := by
  refine ⟨fun a U g mk q => ?_, fun U hU hW => ⟨rfl, ?_, ?_, va_K.moved hW.alike ok.2.2.2.1, qc_ro_go ok.2.2.2.2.2 hS hU hW (fun q h => ?_)⟩⟩
  · obtain ⟨q0, q1, q2, q3, q4⟩ := q
    exact ⟨q0, q1, q2, va_K.moved (u := U) (U := U.calling g mk a) (Vm.Alike.refl U.vm) q3, qc_ro_blind q4⟩
  · rw [hU, hz, hes, List.length_append]; omega
  · rw [hU]; exact qc_shift hB (hes ▸ hP)
  · have : B2 ≤ q := h
    show B ≤ q
    omega
theorem qc_callI {y : MethodName} {b : ByteArray} {maxL lev2 cN2 sN2 B2 n idx na : Nat} {w d d2 : List va_E} (As : List Value) {st0 : List Value} (hd : decode cc pc = .ok (.invokespecial idx, 3)) (hn : pc + 3 = n) (hst : st0 = As.reverse ++ .ref B2 :: st) (hes : es = w ++ d) (hB : B + w.length = B2) (hlen : d2.length = d.length + cN2) (hna : As.length = na) (hi : y.name = "<init>") (cv : (Cond.methodLink own idx y ∈ gw_tbl ∧ Cond.instanceMethod y ∈ gw_tbl ∧ Cond.initialized y.cls ∈ gw_tbl ∧ Cond.code y b maxL none ∈ gw_tbl) ∧ (y.cls ≠ "java/lang/invoke/MethodHandle" ∧ y.cls ≠ "java/lang/invoke/VarHandle" ∧ (parseMethodDescriptor y.desc).map (fun d => d.parameters.length) = some na)) (hsum : (st.map fun v => v.category).sum ≤ 8) (hlev : Nat.ble (lev2 + 1) lev = true) (hmax : Nat.ble maxL 45 = true) (hc1 : Nat.ble (c0 + cN2) cN = true) (hs1 : Nat.ble (s0 + sN2) sN = true) (hK : Kc l D cy ax y b maxL lev2 cN2 sN2 (.ref B2 :: As) B2 d d2)
    (k : VC l D cy ax B X own cc nL lev cN sN n lv st (w ++ d2) (c0 + cN2) (s0 + sN2) Q) : VC l D cy ax B X own cc nL lev cN sN pc lv st0 es c0 s0 Q := by
  subst hst
  refine qc_after (y := y) (b := b) (maxL := maxL) (lev2 := lev2) hn hes hB hlen (fun ok H locs ls hP hz hS hl => ?_) k
  obtain ⟨hx, hb, hml, hown, hts⟩ := ok.1
  have h1 := Nat.le_of_ble_eq_true hlev
  have h2 := Nat.le_of_ble_eq_true hmax
  exact va_runI (As := As) (rest := st) ⟨hx, hb, hml, hown, hts⟩ hK ⟨callB_of na hts (gw_ws cv.1.2.2.2) rfl rfl rfl (hts _ cv.1.2.2.1) (hts _ cv.1.1) cv.2 ⟨h1, by simp only [qv_roomx]; omega⟩, hi, hts _ cv.1.2.1⟩ (qc_pre hes hB ok hP hz hS) rfl hna hl.1 rfl (lv_room hsum) hd ⟨Nat.le_of_ble_eq_true hc1, Nat.le_of_ble_eq_true hs1⟩
theorem qc_callN {y : MethodName} {b : ByteArray} {maxL lev2 cN2 sN2 B2 n idx na : Nat} {w d d2 : List va_E} (As : List Value) {st0 : List Value} (hd : decode cc pc = .ok (.invokespecial idx, 3)) (hn : pc + 3 = n) (hst : st0 = As.reverse ++ .ref B2 :: st) (hes : es = w ++ d) (hB : B + w.length = B2) (hlen : d2.length = d.length + cN2) (hna : As.length = na) (hi : y.name = "<init>") (hnw : ∀ A U, qc_ro ax A U → va_Nw (.methodLinkNest own idx y "QuietTake") U) (cv : (Cond.instanceMethod y ∈ gw_tbl ∧ Cond.initialized y.cls ∈ gw_tbl ∧ Cond.code y b maxL none ∈ gw_tbl) ∧ (y.cls ≠ "java/lang/invoke/MethodHandle" ∧ y.cls ≠ "java/lang/invoke/VarHandle" ∧ (parseMethodDescriptor y.desc).map (fun d => d.parameters.length) = some na)) (hsum : (st.map fun v => v.category).sum ≤ 8) (hlev : Nat.ble (lev2 + 1) lev = true) (hmax : Nat.ble maxL 45 = true) (hc1 : Nat.ble (c0 + cN2) cN = true) (hs1 : Nat.ble (s0 + sN2) sN = true) (hK : Kc l D cy ax y b maxL lev2 cN2 sN2 (.ref B2 :: As) B2 d d2)
    (k : VC l D cy ax B X own cc nL lev cN sN n lv st (w ++ d2) (c0 + cN2) (s0 + sN2) Q) : VC l D cy ax B X own cc nL lev cN sN pc lv st0 es c0 s0 Q := by
  subst hst
  refine qc_after (y := y) (b := b) (maxL := maxL) (lev2 := lev2) hn hes hB hlen (fun ok H locs ls hP hz hS hl => ?_) k
  obtain ⟨hx, hb, hml, hown, hts⟩ := ok.1
  have h1 := Nat.le_of_ble_eq_true hlev
  have h2 := Nat.le_of_ble_eq_true hmax
  exact va_runIN (As := As) (rest := st) (host := "QuietTake") ⟨hx, hb, hml, hown, hts⟩ hK ⟨va_cnB na hts (gw_ws cv.1.2.2) rfl rfl rfl (hnw _ _ ok.2.2.2.2.2) (hts _ cv.1.2.1) cv.2 ⟨h1, by simp only [qv_roomx]; omega⟩, hi, hts _ cv.1.1⟩ (qc_pre hes hB ok hP hz hS) rfl hna hl.1 rfl (lv_room hsum) hd ⟨Nat.le_of_ble_eq_true hc1, Nat.le_of_ble_eq_true hs1⟩
/-- from here on the world is a layout's: the rest is walked by VVx -/
theorem qc_vv {L : List qv_Lc} {S S2 : qv_St} {o : Option qv_St} (hL : Nat.ble L.length 1000 = true) (hL0 : Nat.ble 1 L.length = true) (hX : X.2.2.1.heap.size = B + 1) (hcN : B + 1 + cN = B + L.length) (hc1 : Nat.ble c0 cN = true) (hs1 : Nat.ble s0 sN = true) (hes : es = qc_es (qc_ad B ax) cy L S) (ho : o = some S2) (hv : VVx cN sN (l, D, qc_ad B ax, cy) L X own cc nL none lev qe_u pc lv st S o) : VC l D cy ax B X own cc nL lev cN sN pc lv st es c0 s0 (MQ X.2.2.2.2.2.1 (qc_Q D B (qc_es (qc_ad B ax) cy L S2)) X.2.2.2.2.1 X.2.2.1 cN sN (qc_A B)) := by
  subst hes
  have h1 := Nat.le_of_ble_eq_true hL
  have h2 := Nat.le_of_ble_eq_true hL0
  have had : ∀ q, q < L.length → qc_ad B ax q = B + q := fun q hq => by simp [qc_ad, show q < 1000 by omega]
  intro ok H locs ls hP hz hcz hS hl
  refine W.widen (k := cN) (n := sN) (Nat.le_of_ble_eq_true hc1) (Nat.le_of_ble_eq_true hs1) ?_
  refine qc_locs (locs2 := locs.filter (fun q => decide (q.base = B))) (fun q hq hlt => List.mem_filter.mpr ⟨hq, ?_⟩) ?_
  · have h8 : B ≤ q.base := hS.2.2 q hq
    have h9 : q.base < B + 1 := hX ▸ hlt
    simp only [decide_eq_true_eq]
    exact Nat.le_antisymm (Nat.le_of_lt_succ h9) h8
  · have hAA : ∀ q, qv_A (qc_ad B ax) L q → B ≤ q := fun q ⟨i, hi, e⟩ => by rw [e, had i hi]; omega
    refine qc_mono (fun t ht => ?_) (hv S2 ho ⟨ok.1, ok.2.1, ok.2.2.1, ok.2.2.2.1, fun i j hi hj e => ?_, ?_⟩ H _ ls (by rw [← qc_wd_es h1]; exact hP) ⟨hS.1, fun q hq hn => ?_, fun q hq => ?_⟩ hl)
    · obtain ⟨oc, t1, t2, ⟨t3, t4, t5⟩, Lx, t6, t7⟩ := ht
      refine ⟨oc, t1, t2, ⟨t3, ?_, ?_, t5.1, fun q hq hn => t5.2 q hq (fun z => hn (hAA q z))⟩, Lx, t6, fun q hq => hAA _ (t7 q hq)⟩
      · have g1 : t.heap.size ≤ X.2.2.1.heap.size + cN := t6.2.2.2.2.1
        rw [← qc_wd_es h1] at t4
        have g2 : (qc_es (qc_ad B ax) cy L S2).length = L.length := by simp [qc_es]
        have g3 := (t4 (L.length - 1) _ (qc_at (List.getElem?_eq_getElem (by rw [g2]; omega)))).lt
        dsimp only at g3
        rw [g2]
        omega
      · rw [qc_wd_es h1]; exact t4
    · have e2 : qc_ad B ax i = qc_ad B ax j := e
      rw [had i hi, had j hj] at e2
      omega
    · obtain ⟨r1, r2, r3, r4, r5, r6⟩ := ok.2.2.2.2.2.1
      have k1 : ∀ i, qc_ad B ax (1000 + i) = ax (1000 + i) := fun i => by simp [qc_ad, show ¬ 1000 + i < 1000 by omega]
      have k2 : ∀ i, qc_ad B ax (2000 + i) = ax (2000 + i) := fun i => by simp [qc_ad, show ¬ 2000 + i < 1000 by omega]
      refine ⟨?_, r2, r3, r4.narrow hAA, r5.narrow hAA, r6⟩
      show vk_S 2 qv_len qv_byt (fun i => qc_ad B ax (1000 + i)) (fun i => qc_ad B ax (2000 + i)) _ _ _
      simp only [k1, k2]
      exact r1.narrow hAA
    · refine hS.2.1 q hq (fun z => hn ⟨0, by omega, ?_⟩)
      have h8 : B ≤ q := z
      have h9 : q < B + 1 := hX ▸ hq
      show q = qc_ad B ax 0
      rw [had 0 (by omega)]
      omega
    · have := (List.mem_filter.mp hq).2
      simp only [decide_eq_true_eq] at this
      exact ⟨0, by omega, by rw [this]; exact (had 0 (by omega)).symm⟩
end QCR
end
section
theorem kob1 : Cond.instanceMethod Lib.objectInit ∈ gw_tbl := gw_ix 124 (by decide +kernel)
theorem kob2 : Cond.code Lib.objectInit ⟨#[0xb1]⟩ 1 none ∈ gw_tbl := gw_ix 125 (by decide +kernel)
theorem kac0 : Cond.arrayClass .int ∈ gw_tbl := gw_ix 167 (by decide +kernel)
theorem kac1 : Cond.arrayClass .byte ∈ gw_tbl := gw_ix 141 (by decide +kernel)
theorem kac2 : Cond.arrayClass .boolean ∈ gw_tbl := gw_ix 236 (by decide +kernel)
theorem kac3 : Cond.arrayClass .long ∈ gw_tbl := gw_ix 168 (by decide +kernel)
theorem koX0_3 : Cond.methodLink RX0 3 Lib.objectInit ∈ gw_tbl := gw_ix 402 (by decide +kernel)
theorem koX2_3 : Cond.methodLink RX2 3 Lib.objectInit ∈ gw_tbl := gw_ix 219 (by decide +kernel)
theorem koX3_3 : Cond.methodLink RX3 3 Lib.objectInit ∈ gw_tbl := gw_ix 455 (by decide +kernel)
theorem koX4_3 : Cond.methodLink RX4 3 Lib.objectInit ∈ gw_tbl := gw_ix 174 (by decide +kernel)
theorem koX6_3 : Cond.methodLink RX6 3 Lib.objectInit ∈ gw_tbl := gw_ix 339 (by decide +kernel)
theorem koX7_5 : Cond.methodLink RX7 5 Lib.objectInit ∈ gw_tbl := gw_ix 430 (by decide +kernel)
theorem koX8_1 : Cond.methodLink RX8 1 Lib.objectInit ∈ gw_tbl := gw_ix 131 (by decide +kernel)
theorem koX9_3 : Cond.methodLink RX9 3 Lib.objectInit ∈ gw_tbl := gw_ix 147 (by decide +kernel)
theorem koX10_3 : Cond.methodLink RX10 3 Lib.objectInit ∈ gw_tbl := gw_ix 489 (by decide +kernel)
theorem jfX0_11 : Cond.fieldLink RX0 11 (TX0 1).1 (TX0 1).2.1 (TX0 1).2.2.1 ∈ gw_tbl := gw_ix 404 (by decide +kernel)
theorem jfX0_15 : Cond.fieldLink RX0 15 (TX0 2).1 (TX0 2).2.1 (TX0 2).2.2.1 ∈ gw_tbl := gw_ix 405 (by decide +kernel)
theorem jfX0_18 : Cond.fieldLink RX0 18 (TX0 3).1 (TX0 3).2.1 (TX0 3).2.2.1 ∈ gw_tbl := gw_ix 406 (by decide +kernel)
theorem jfX0_21 : Cond.fieldLink RX0 21 (TX0 4).1 (TX0 4).2.1 (TX0 4).2.2.1 ∈ gw_tbl := gw_ix 407 (by decide +kernel)
theorem jfX0_24 : Cond.fieldLink RX0 24 (TX0 5).1 (TX0 5).2.1 (TX0 5).2.2.1 ∈ gw_tbl := gw_ix 408 (by decide +kernel)
theorem jfX0_27 : Cond.fieldLink RX0 27 (TX0 0).1 (TX0 0).2.1 (TX0 0).2.2.1 ∈ gw_tbl := gw_ix 403 (by decide +kernel)
theorem jfX2_11 : Cond.fieldLink RX2 11 (TX2 0).1 (TX2 0).2.1 (TX2 0).2.2.1 ∈ gw_tbl := gw_ix 220 (by decide +kernel)
theorem jfX2_17 : Cond.fieldLink RX2 17 (TX2 1).1 (TX2 1).2.1 (TX2 1).2.2.1 ∈ gw_tbl := gw_ix 221 (by decide +kernel)
theorem jfX2_20 : Cond.fieldLink RX2 20 (TX2 2).1 (TX2 2).2.1 (TX2 2).2.2.1 ∈ gw_tbl := gw_ix 222 (by decide +kernel)
theorem jfX3_11 : Cond.fieldLink RX3 11 (TX3 3).1 (TX3 3).2.1 (TX3 3).2.2.1 ∈ gw_tbl := gw_ix 459 (by decide +kernel)
theorem jfX3_15 : Cond.fieldLink RX3 15 (TX3 4).1 (TX3 4).2.1 (TX3 4).2.2.1 ∈ gw_tbl := gw_ix 460 (by decide +kernel)
theorem jfX3_18 : Cond.fieldLink RX3 18 (TX3 5).1 (TX3 5).2.1 (TX3 5).2.2.1 ∈ gw_tbl := gw_ix 461 (by decide +kernel)
theorem jfX3_21 : Cond.fieldLink RX3 21 (TX3 6).1 (TX3 6).2.1 (TX3 6).2.2.1 ∈ gw_tbl := gw_ix 463 (by decide +kernel)
theorem jfX3_24 : Cond.fieldLink RX3 24 (TX3 0).1 (TX3 0).2.1 (TX3 0).2.2.1 ∈ gw_tbl := gw_ix 456 (by decide +kernel)
theorem jfX3_28 : Cond.fieldLink RX3 28 (TX3 1).1 (TX3 1).2.1 (TX3 1).2.2.1 ∈ gw_tbl := gw_ix 457 (by decide +kernel)
theorem jfX3_32 : Cond.fieldLink RX3 32 (TX3 2).1 (TX3 2).2.1 (TX3 2).2.2.1 ∈ gw_tbl := gw_ix 458 (by decide +kernel)
theorem jfX4_15 : Cond.fieldLink RX4 15 (TX4 9).1 (TX4 9).2.1 (TX4 9).2.2.1 ∈ gw_tbl := gw_ix 185 (by decide +kernel)
theorem jfX4_19 : Cond.fieldLink RX4 19 (TX4 0).1 (TX4 0).2.1 (TX4 0).2.2.1 ∈ gw_tbl := gw_ix 175 (by decide +kernel)
theorem jfX4_9 : Cond.fieldLink RX4 9 (TX4 1).1 (TX4 1).2.1 (TX4 1).2.2.1 ∈ gw_tbl := gw_ix 176 (by decide +kernel)
theorem jfX6_15 : Cond.fieldLink RX6 15 (TX6 5).1 (TX6 5).2.1 (TX6 5).2.2.1 ∈ gw_tbl := gw_ix 354 (by decide +kernel)
theorem jfX6_18 : Cond.fieldLink RX6 18 (TX6 6).1 (TX6 6).2.1 (TX6 6).2.2.1 ∈ gw_tbl := gw_ix 356 (by decide +kernel)
theorem jfX6_21 : Cond.fieldLink RX6 21 (TX6 7).1 (TX6 7).2.1 (TX6 7).2.2.1 ∈ gw_tbl := gw_ix 358 (by decide +kernel)
theorem jfX6_9 : Cond.fieldLink RX6 9 (TX6 4).1 (TX6 4).2.1 (TX6 4).2.2.1 ∈ gw_tbl := gw_ix 351 (by decide +kernel)
theorem jfX7_13 : Cond.fieldLink RX7 13 (TX7 3).1 (TX7 3).2.1 (TX7 3).2.2.1 ∈ gw_tbl := gw_ix 434 (by decide +kernel)
theorem jfX7_17 : Cond.fieldLink RX7 17 (TX7 4).1 (TX7 4).2.1 (TX7 4).2.2.1 ∈ gw_tbl := gw_ix 435 (by decide +kernel)
theorem jfX7_20 : Cond.fieldLink RX7 20 (TX7 5).1 (TX7 5).2.1 (TX7 5).2.2.1 ∈ gw_tbl := gw_ix 436 (by decide +kernel)
theorem jfX7_24 : Cond.fieldLink RX7 24 (TX7 0).1 (TX7 0).2.1 (TX7 0).2.2.1 ∈ gw_tbl := gw_ix 431 (by decide +kernel)
theorem jfX7_28 : Cond.fieldLink RX7 28 (TX7 1).1 (TX7 1).2.1 (TX7 1).2.2.1 ∈ gw_tbl := gw_ix 432 (by decide +kernel)
theorem jfX7_32 : Cond.fieldLink RX7 32 (TX7 2).1 (TX7 2).2.1 (TX7 2).2.2.1 ∈ gw_tbl := gw_ix 433 (by decide +kernel)
theorem jfX8_9 : Cond.fieldLink RX8 9 (TX8 0).1 (TX8 0).2.1 (TX8 0).2.2.1 ∈ gw_tbl := gw_ix 132 (by decide +kernel)
theorem jfX9_11 : Cond.fieldLink RX9 11 (TX9 0).1 (TX9 0).2.1 (TX9 0).2.2.1 ∈ gw_tbl := gw_ix 148 (by decide +kernel)
theorem jfX9_15 : Cond.fieldLink RX9 15 (TX9 1).1 (TX9 1).2.1 (TX9 1).2.2.1 ∈ gw_tbl := gw_ix 149 (by decide +kernel)
theorem jfX9_18 : Cond.fieldLink RX9 18 (TX9 2).1 (TX9 2).2.1 (TX9 2).2.2.1 ∈ gw_tbl := gw_ix 150 (by decide +kernel)
theorem jfX10_11 : Cond.fieldLink RX10 11 (TX10 2).1 (TX10 2).2.1 (TX10 2).2.2.1 ∈ gw_tbl := gw_ix 492 (by decide +kernel)
theorem jfX10_15 : Cond.fieldLink RX10 15 (TX10 0).1 (TX10 0).2.1 (TX10 0).2.2.1 ∈ gw_tbl := gw_ix 490 (by decide +kernel)
theorem jfX10_19 : Cond.fieldLink RX10 19 (TX10 1).1 (TX10 1).2.1 (TX10 1).2.2.1 ∈ gw_tbl := gw_ix 491 (by decide +kernel)
def tbX0_init : List (Nat × Instr × Nat) := [(0, .aload_n 0, 1), (1, .invokespecial 3, 3), (4, .aload_n 0, 1), (5, .bipush 9, 2), (7, .newarray .int, 2), (9, .putfield 11, 3), (12, .aload_n 0, 1), (13, .bipush 9, 2), (15, .newarray .int, 2), (17, .putfield 15, 3), (20, .aload_n 0, 1), (21, .bipush 9, 2), (23, .newarray .int, 2), (25, .putfield 18, 3), (28, .aload_n 0, 1), (29, .bipush 8, 2), (31, .newarray .int, 2), (33, .putfield 21, 3), (36, .aload_n 0, 1), (37, .bipush 8, 2), (39, .newarray .int, 2), (41, .putfield 24, 3), (44, .aload_n 0, 1), (45, .aload_n 1, 1), (46, .putfield 27, 3), (49, .return_, 1)]
set_option maxRecDepth 20000 in
theorem daX0_init : ∀ x ∈ tbX0_init, decode cX0_init x.1 = .ok x.2 := by decide +kernel
theorem dkX0_init {i pc n : Nat} {ins : Instr} (h : tbX0_init[i]? = some (pc, ins, n)) : decode cX0_init pc = .ok (ins, n) := daX0_init (pc, ins, n) (List.mem_of_getElem? h)
def bkX0_init (cy : Nat → Nat) (B : Nat) (a1 : Nat) : List va_E := [.inr (0, [.ref a1, .ref (B + 1), .ref (B + 2), .ref (B + 3), .ref (B + 4), .ref (B + 5), .int 0]), .inl (cy 0, 9, .inl (fun _ => 0)), .inl (cy 0, 9, .inl (fun _ => 0)), .inl (cy 0, 9, .inl (fun _ => 0)), .inl (cy 0, 8, .inl (fun _ => 0)), .inl (cy 0, 8, .inl (fun _ => 0))]
set_option maxRecDepth 20000 in
set_option maxHeartbeats 4000000 in
theorem kcX0_init (l : Launch) (D : va_G) (cy ax : Nat → Nat) (B : Nat) (a1 : Nat) : Kc l D cy ax yX0_init cX0_init 2 1 5 43 [.ref B, .ref a1] B [.inr (0, [.null, .null, .null, .null, .null, .null, .int 0])] (bkX0_init cy B a1) := by
  refine kc_of (own := RX0) (lv := [(0, .ref B), (1, .ref a1)]) rfl rfl rfl (Nat.le_of_ble_eq_true rfl) rfl rfl (fun X hX => ?_)
  refine qc_aload_n (n := 1) 0 (dkX0_init (i := 0) rfl) rfl rfl ?_
  refine qc_obj (n := 4) (dkX0_init (i := 1) rfl) rfl koX0_3 kob1 kob2 rfl (Nat.le_of_ble_eq_true rfl) ?_
  refine qc_aload_n (n := 5) 0 (dkX0_init (i := 2) rfl) rfl rfl ?_
  refine qc_bipush (n := 7) 9 (dkX0_init (i := 3) rfl) rfl (by decide) ?_
  refine qc_arr 0 (n := 9) (r := 1) (9, .inl (fun _ => 0)) (dkX0_init (i := 4) rfl) rfl rfl kac0 rfl (fun _ h => h) (fun _ => rfl) (by decide) (by decide) (by decide) rfl rfl rfl ?_
  refine qc_putF (n := 12) (v := .ref (B + 1)) (es2 := [.inr (0, [.null, .ref (B + 1), .null, .null, .null, .null, .int 0]), .inl (cy 0, 9, .inl (fun _ => 0))]) 0 1 (dkX0_init (i := 5) rfl) rfl rfl rfl gnX0 (Nat.le_of_ble_eq_true rfl) jfX0_11 (Nat.le_of_ble_eq_true rfl) tyX0_ok nmX0 rfl rfl rfl rfl rfl ?_
  refine qc_aload_n (n := 13) 0 (dkX0_init (i := 6) rfl) rfl rfl ?_
  refine qc_bipush (n := 15) 9 (dkX0_init (i := 7) rfl) rfl (by decide) ?_
  refine qc_arr 0 (n := 17) (r := 2) (9, .inl (fun _ => 0)) (dkX0_init (i := 8) rfl) rfl rfl kac0 rfl (fun _ h => h) (fun _ => rfl) (by decide) (by decide) (by decide) rfl rfl rfl ?_
  refine qc_putF (n := 20) (v := .ref (B + 2)) (es2 := [.inr (0, [.null, .ref (B + 1), .ref (B + 2), .null, .null, .null, .int 0]), .inl (cy 0, 9, .inl (fun _ => 0)), .inl (cy 0, 9, .inl (fun _ => 0))]) 0 2 (dkX0_init (i := 9) rfl) rfl rfl rfl gnX0 (Nat.le_of_ble_eq_true rfl) jfX0_15 (Nat.le_of_ble_eq_true rfl) tyX0_ok nmX0 rfl rfl rfl rfl rfl ?_
  refine qc_aload_n (n := 21) 0 (dkX0_init (i := 10) rfl) rfl rfl ?_
  refine qc_bipush (n := 23) 9 (dkX0_init (i := 11) rfl) rfl (by decide) ?_
  refine qc_arr 0 (n := 25) (r := 3) (9, .inl (fun _ => 0)) (dkX0_init (i := 12) rfl) rfl rfl kac0 rfl (fun _ h => h) (fun _ => rfl) (by decide) (by decide) (by decide) rfl rfl rfl ?_
  refine qc_putF (n := 28) (v := .ref (B + 3)) (es2 := [.inr (0, [.null, .ref (B + 1), .ref (B + 2), .ref (B + 3), .null, .null, .int 0]), .inl (cy 0, 9, .inl (fun _ => 0)), .inl (cy 0, 9, .inl (fun _ => 0)), .inl (cy 0, 9, .inl (fun _ => 0))]) 0 3 (dkX0_init (i := 13) rfl) rfl rfl rfl gnX0 (Nat.le_of_ble_eq_true rfl) jfX0_18 (Nat.le_of_ble_eq_true rfl) tyX0_ok nmX0 rfl rfl rfl rfl rfl ?_
  refine qc_aload_n (n := 29) 0 (dkX0_init (i := 14) rfl) rfl rfl ?_
  refine qc_bipush (n := 31) 8 (dkX0_init (i := 15) rfl) rfl (by decide) ?_
  refine qc_arr 0 (n := 33) (r := 4) (8, .inl (fun _ => 0)) (dkX0_init (i := 16) rfl) rfl rfl kac0 rfl (fun _ h => h) (fun _ => rfl) (by decide) (by decide) (by decide) rfl rfl rfl ?_
  refine qc_putF (n := 36) (v := .ref (B + 4)) (es2 := [.inr (0, [.null, .ref (B + 1), .ref (B + 2), .ref (B + 3), .ref (B + 4), .null, .int 0]), .inl (cy 0, 9, .inl (fun _ => 0)), .inl (cy 0, 9, .inl (fun _ => 0)), .inl (cy 0, 9, .inl (fun _ => 0)), .inl (cy 0, 8, .inl (fun _ => 0))]) 0 4 (dkX0_init (i := 17) rfl) rfl rfl rfl gnX0 (Nat.le_of_ble_eq_true rfl) jfX0_21 (Nat.le_of_ble_eq_true rfl) tyX0_ok nmX0 rfl rfl rfl rfl rfl ?_
  refine qc_aload_n (n := 37) 0 (dkX0_init (i := 18) rfl) rfl rfl ?_
  refine qc_bipush (n := 39) 8 (dkX0_init (i := 19) rfl) rfl (by decide) ?_
  refine qc_arr 0 (n := 41) (r := 5) (8, .inl (fun _ => 0)) (dkX0_init (i := 20) rfl) rfl rfl kac0 rfl (fun _ h => h) (fun _ => rfl) (by decide) (by decide) (by decide) rfl rfl rfl ?_
  refine qc_putF (n := 44) (v := .ref (B + 5)) (es2 := [.inr (0, [.null, .ref (B + 1), .ref (B + 2), .ref (B + 3), .ref (B + 4), .ref (B + 5), .int 0]), .inl (cy 0, 9, .inl (fun _ => 0)), .inl (cy 0, 9, .inl (fun _ => 0)), .inl (cy 0, 9, .inl (fun _ => 0)), .inl (cy 0, 8, .inl (fun _ => 0)), .inl (cy 0, 8, .inl (fun _ => 0))]) 0 5 (dkX0_init (i := 21) rfl) rfl rfl rfl gnX0 (Nat.le_of_ble_eq_true rfl) jfX0_24 (Nat.le_of_ble_eq_true rfl) tyX0_ok nmX0 rfl rfl rfl rfl rfl ?_
  refine qc_aload_n (n := 45) 0 (dkX0_init (i := 22) rfl) rfl rfl ?_
  refine qc_aload_n (n := 46) 1 (dkX0_init (i := 23) rfl) rfl rfl ?_
  refine qc_putF (n := 49) (v := .ref a1) (es2 := [.inr (0, [.ref a1, .ref (B + 1), .ref (B + 2), .ref (B + 3), .ref (B + 4), .ref (B + 5), .int 0]), .inl (cy 0, 9, .inl (fun _ => 0)), .inl (cy 0, 9, .inl (fun _ => 0)), .inl (cy 0, 9, .inl (fun _ => 0)), .inl (cy 0, 8, .inl (fun _ => 0)), .inl (cy 0, 8, .inl (fun _ => 0))]) 0 0 (dkX0_init (i := 24) rfl) rfl rfl rfl gnX0 (Nat.le_of_ble_eq_true rfl) jfX0_27 (Nat.le_of_ble_eq_true rfl) tyX0_ok nmX0 rfl rfl rfl rfl rfl ?_
  exact qc_ret (dkX0_init (i := 25) rfl) rfl rfl
def tbX2_init : List (Nat × Instr × Nat) := [(0, .aload_n 0, 1), (1, .invokespecial 3, 3), (4, .aload_n 0, 1), (5, .sipush 400, 3), (8, .newarray .int, 2), (10, .putfield 11, 3), (13, .aload_n 0, 1), (14, .bipush 32, 2), (16, .newarray .int, 2), (18, .putfield 17, 3), (21, .aload_n 0, 1), (22, .bipush 32, 2), (24, .newarray .int, 2), (26, .putfield 20, 3), (29, .return_, 1)]
set_option maxRecDepth 20000 in
theorem daX2_init : ∀ x ∈ tbX2_init, decode cX2_init x.1 = .ok x.2 := by decide +kernel
theorem dkX2_init {i pc n : Nat} {ins : Instr} (h : tbX2_init[i]? = some (pc, ins, n)) : decode cX2_init pc = .ok (ins, n) := daX2_init (pc, ins, n) (List.mem_of_getElem? h)
def bkX2_init (cy : Nat → Nat) (B : Nat) : List va_E := [.inr (2, [.ref (B + 1), .ref (B + 2), .ref (B + 3), .int 0, .int 0]), .inl (cy 0, 400, .inl (fun _ => 0)), .inl (cy 0, 32, .inl (fun _ => 0)), .inl (cy 0, 32, .inl (fun _ => 0))]
set_option maxRecDepth 20000 in
set_option maxHeartbeats 4000000 in
theorem kcX2_init (l : Launch) (D : va_G) (cy ax : Nat → Nat) (B : Nat) : Kc l D cy ax yX2_init cX2_init 1 1 3 464 [.ref B] B [.inr (2, [.null, .null, .null, .int 0, .int 0])] (bkX2_init cy B) := by
  refine kc_of (own := RX2) (lv := [(0, .ref B)]) rfl rfl rfl (Nat.le_of_ble_eq_true rfl) rfl rfl (fun X hX => ?_)
  refine qc_aload_n (n := 1) 0 (dkX2_init (i := 0) rfl) rfl rfl ?_
  refine qc_obj (n := 4) (dkX2_init (i := 1) rfl) rfl koX2_3 kob1 kob2 rfl (Nat.le_of_ble_eq_true rfl) ?_
  refine qc_aload_n (n := 5) 0 (dkX2_init (i := 2) rfl) rfl rfl ?_
  refine qc_sipush (n := 8) 400 (dkX2_init (i := 3) rfl) rfl (by decide) ?_
  refine qc_arr 0 (n := 10) (r := 1) (400, .inl (fun _ => 0)) (dkX2_init (i := 4) rfl) rfl rfl kac0 rfl (fun _ h => h) (fun _ => rfl) (by decide) (by decide) (by decide) rfl rfl rfl ?_
  refine qc_putF (n := 13) (v := .ref (B + 1)) (es2 := [.inr (2, [.ref (B + 1), .null, .null, .int 0, .int 0]), .inl (cy 0, 400, .inl (fun _ => 0))]) 0 0 (dkX2_init (i := 5) rfl) rfl rfl rfl gnX2 (Nat.le_of_ble_eq_true rfl) jfX2_11 (Nat.le_of_ble_eq_true rfl) tyX2_ok nmX2 rfl rfl rfl rfl rfl ?_
  refine qc_aload_n (n := 14) 0 (dkX2_init (i := 6) rfl) rfl rfl ?_
  refine qc_bipush (n := 16) 32 (dkX2_init (i := 7) rfl) rfl (by decide) ?_
  refine qc_arr 0 (n := 18) (r := 2) (32, .inl (fun _ => 0)) (dkX2_init (i := 8) rfl) rfl rfl kac0 rfl (fun _ h => h) (fun _ => rfl) (by decide) (by decide) (by decide) rfl rfl rfl ?_
  refine qc_putF (n := 21) (v := .ref (B + 2)) (es2 := [.inr (2, [.ref (B + 1), .ref (B + 2), .null, .int 0, .int 0]), .inl (cy 0, 400, .inl (fun _ => 0)), .inl (cy 0, 32, .inl (fun _ => 0))]) 0 1 (dkX2_init (i := 9) rfl) rfl rfl rfl gnX2 (Nat.le_of_ble_eq_true rfl) jfX2_17 (Nat.le_of_ble_eq_true rfl) tyX2_ok nmX2 rfl rfl rfl rfl rfl ?_
  refine qc_aload_n (n := 22) 0 (dkX2_init (i := 10) rfl) rfl rfl ?_
  refine qc_bipush (n := 24) 32 (dkX2_init (i := 11) rfl) rfl (by decide) ?_
  refine qc_arr 0 (n := 26) (r := 3) (32, .inl (fun _ => 0)) (dkX2_init (i := 12) rfl) rfl rfl kac0 rfl (fun _ h => h) (fun _ => rfl) (by decide) (by decide) (by decide) rfl rfl rfl ?_
  refine qc_putF (n := 29) (v := .ref (B + 3)) (es2 := [.inr (2, [.ref (B + 1), .ref (B + 2), .ref (B + 3), .int 0, .int 0]), .inl (cy 0, 400, .inl (fun _ => 0)), .inl (cy 0, 32, .inl (fun _ => 0)), .inl (cy 0, 32, .inl (fun _ => 0))]) 0 2 (dkX2_init (i := 13) rfl) rfl rfl rfl gnX2 (Nat.le_of_ble_eq_true rfl) jfX2_20 (Nat.le_of_ble_eq_true rfl) tyX2_ok nmX2 rfl rfl rfl rfl rfl ?_
  exact qc_ret (dkX2_init (i := 14) rfl) rfl rfl
def tbX3_init : List (Nat × Instr × Nat) := [(0, .aload_n 0, 1), (1, .invokespecial 3, 3), (4, .aload_n 0, 1), (5, .iconst 5, 1), (6, .newarray .int, 2), (8, .putfield 11, 3), (11, .aload_n 0, 1), (12, .iconst 5, 1), (13, .newarray .int, 2), (15, .putfield 15, 3), (18, .aload_n 0, 1), (19, .bipush 32, 2), (21, .newarray .int, 2), (23, .putfield 18, 3), (26, .aload_n 0, 1), (27, .iconst 5, 1), (28, .newarray .int, 2), (30, .putfield 21, 3), (33, .aload_n 0, 1), (34, .aload_n 1, 1), (35, .putfield 24, 3), (38, .aload_n 0, 1), (39, .aload_n 2, 1), (40, .putfield 28, 3), (43, .aload_n 0, 1), (44, .aload_n 3, 1), (45, .putfield 32, 3), (48, .return_, 1)]
set_option maxRecDepth 20000 in
theorem daX3_init : ∀ x ∈ tbX3_init, decode cX3_init x.1 = .ok x.2 := by decide +kernel
theorem dkX3_init {i pc n : Nat} {ins : Instr} (h : tbX3_init[i]? = some (pc, ins, n)) : decode cX3_init pc = .ok (ins, n) := daX3_init (pc, ins, n) (List.mem_of_getElem? h)
def bkX3_init (cy : Nat → Nat) (B : Nat) (a1 a2 a3 : Nat) : List va_E := [.inr (3, [.ref a1, .ref a2, .ref a3, .ref (B + 1), .ref (B + 2), .ref (B + 3), .ref (B + 4), .int 0]), .inl (cy 0, 5, .inl (fun _ => 0)), .inl (cy 0, 5, .inl (fun _ => 0)), .inl (cy 0, 32, .inl (fun _ => 0)), .inl (cy 0, 5, .inl (fun _ => 0))]
set_option maxRecDepth 20000 in
set_option maxHeartbeats 4000000 in
theorem kcX3_init (l : Launch) (D : va_G) (cy ax : Nat → Nat) (B : Nat) (a1 a2 a3 : Nat) : Kc l D cy ax yX3_init cX3_init 4 1 4 47 [.ref B, .ref a1, .ref a2, .ref a3] B [.inr (3, [.null, .null, .null, .null, .null, .null, .null, .int 0])] (bkX3_init cy B a1 a2 a3) := by
  refine kc_of (own := RX3) (lv := [(0, .ref B), (1, .ref a1), (2, .ref a2), (3, .ref a3)]) rfl rfl rfl (Nat.le_of_ble_eq_true rfl) rfl rfl (fun X hX => ?_)
  refine qc_aload_n (n := 1) 0 (dkX3_init (i := 0) rfl) rfl rfl ?_
  refine qc_obj (n := 4) (dkX3_init (i := 1) rfl) rfl koX3_3 kob1 kob2 rfl (Nat.le_of_ble_eq_true rfl) ?_
  refine qc_aload_n (n := 5) 0 (dkX3_init (i := 2) rfl) rfl rfl ?_
  refine qc_iconst (n := 6) 5 (dkX3_init (i := 3) rfl) rfl (by decide) ?_
  refine qc_arr 0 (n := 8) (r := 1) (5, .inl (fun _ => 0)) (dkX3_init (i := 4) rfl) rfl rfl kac0 rfl (fun _ h => h) (fun _ => rfl) (by decide) (by decide) (by decide) rfl rfl rfl ?_
  refine qc_putF (n := 11) (v := .ref (B + 1)) (es2 := [.inr (3, [.null, .null, .null, .ref (B + 1), .null, .null, .null, .int 0]), .inl (cy 0, 5, .inl (fun _ => 0))]) 0 3 (dkX3_init (i := 5) rfl) rfl rfl rfl gnX3 (Nat.le_of_ble_eq_true rfl) jfX3_11 (Nat.le_of_ble_eq_true rfl) tyX3_ok nmX3 rfl rfl rfl rfl rfl ?_
  refine qc_aload_n (n := 12) 0 (dkX3_init (i := 6) rfl) rfl rfl ?_
  refine qc_iconst (n := 13) 5 (dkX3_init (i := 7) rfl) rfl (by decide) ?_
  refine qc_arr 0 (n := 15) (r := 2) (5, .inl (fun _ => 0)) (dkX3_init (i := 8) rfl) rfl rfl kac0 rfl (fun _ h => h) (fun _ => rfl) (by decide) (by decide) (by decide) rfl rfl rfl ?_
  refine qc_putF (n := 18) (v := .ref (B + 2)) (es2 := [.inr (3, [.null, .null, .null, .ref (B + 1), .ref (B + 2), .null, .null, .int 0]), .inl (cy 0, 5, .inl (fun _ => 0)), .inl (cy 0, 5, .inl (fun _ => 0))]) 0 4 (dkX3_init (i := 9) rfl) rfl rfl rfl gnX3 (Nat.le_of_ble_eq_true rfl) jfX3_15 (Nat.le_of_ble_eq_true rfl) tyX3_ok nmX3 rfl rfl rfl rfl rfl ?_
  refine qc_aload_n (n := 19) 0 (dkX3_init (i := 10) rfl) rfl rfl ?_
  refine qc_bipush (n := 21) 32 (dkX3_init (i := 11) rfl) rfl (by decide) ?_
  refine qc_arr 0 (n := 23) (r := 3) (32, .inl (fun _ => 0)) (dkX3_init (i := 12) rfl) rfl rfl kac0 rfl (fun _ h => h) (fun _ => rfl) (by decide) (by decide) (by decide) rfl rfl rfl ?_
  refine qc_putF (n := 26) (v := .ref (B + 3)) (es2 := [.inr (3, [.null, .null, .null, .ref (B + 1), .ref (B + 2), .ref (B + 3), .null, .int 0]), .inl (cy 0, 5, .inl (fun _ => 0)), .inl (cy 0, 5, .inl (fun _ => 0)), .inl (cy 0, 32, .inl (fun _ => 0))]) 0 5 (dkX3_init (i := 13) rfl) rfl rfl rfl gnX3 (Nat.le_of_ble_eq_true rfl) jfX3_18 (Nat.le_of_ble_eq_true rfl) tyX3_ok nmX3 rfl rfl rfl rfl rfl ?_
  refine qc_aload_n (n := 27) 0 (dkX3_init (i := 14) rfl) rfl rfl ?_
  refine qc_iconst (n := 28) 5 (dkX3_init (i := 15) rfl) rfl (by decide) ?_
  refine qc_arr 0 (n := 30) (r := 4) (5, .inl (fun _ => 0)) (dkX3_init (i := 16) rfl) rfl rfl kac0 rfl (fun _ h => h) (fun _ => rfl) (by decide) (by decide) (by decide) rfl rfl rfl ?_
  refine qc_putF (n := 33) (v := .ref (B + 4)) (es2 := [.inr (3, [.null, .null, .null, .ref (B + 1), .ref (B + 2), .ref (B + 3), .ref (B + 4), .int 0]), .inl (cy 0, 5, .inl (fun _ => 0)), .inl (cy 0, 5, .inl (fun _ => 0)), .inl (cy 0, 32, .inl (fun _ => 0)), .inl (cy 0, 5, .inl (fun _ => 0))]) 0 6 (dkX3_init (i := 17) rfl) rfl rfl rfl gnX3 (Nat.le_of_ble_eq_true rfl) jfX3_21 (Nat.le_of_ble_eq_true rfl) tyX3_ok nmX3 rfl rfl rfl rfl rfl ?_
  refine qc_aload_n (n := 34) 0 (dkX3_init (i := 18) rfl) rfl rfl ?_
  refine qc_aload_n (n := 35) 1 (dkX3_init (i := 19) rfl) rfl rfl ?_
  refine qc_putF (n := 38) (v := .ref a1) (es2 := [.inr (3, [.ref a1, .null, .null, .ref (B + 1), .ref (B + 2), .ref (B + 3), .ref (B + 4), .int 0]), .inl (cy 0, 5, .inl (fun _ => 0)), .inl (cy 0, 5, .inl (fun _ => 0)), .inl (cy 0, 32, .inl (fun _ => 0)), .inl (cy 0, 5, .inl (fun _ => 0))]) 0 0 (dkX3_init (i := 20) rfl) rfl rfl rfl gnX3 (Nat.le_of_ble_eq_true rfl) jfX3_24 (Nat.le_of_ble_eq_true rfl) tyX3_ok nmX3 rfl rfl rfl rfl rfl ?_
  refine qc_aload_n (n := 39) 0 (dkX3_init (i := 21) rfl) rfl rfl ?_
  refine qc_aload_n (n := 40) 2 (dkX3_init (i := 22) rfl) rfl rfl ?_
  refine qc_putF (n := 43) (v := .ref a2) (es2 := [.inr (3, [.ref a1, .ref a2, .null, .ref (B + 1), .ref (B + 2), .ref (B + 3), .ref (B + 4), .int 0]), .inl (cy 0, 5, .inl (fun _ => 0)), .inl (cy 0, 5, .inl (fun _ => 0)), .inl (cy 0, 32, .inl (fun _ => 0)), .inl (cy 0, 5, .inl (fun _ => 0))]) 0 1 (dkX3_init (i := 23) rfl) rfl rfl rfl gnX3 (Nat.le_of_ble_eq_true rfl) jfX3_28 (Nat.le_of_ble_eq_true rfl) tyX3_ok nmX3 rfl rfl rfl rfl rfl ?_
  refine qc_aload_n (n := 44) 0 (dkX3_init (i := 24) rfl) rfl rfl ?_
  refine qc_aload_n (n := 45) 3 (dkX3_init (i := 25) rfl) rfl rfl ?_
  refine qc_putF (n := 48) (v := .ref a3) (es2 := [.inr (3, [.ref a1, .ref a2, .ref a3, .ref (B + 1), .ref (B + 2), .ref (B + 3), .ref (B + 4), .int 0]), .inl (cy 0, 5, .inl (fun _ => 0)), .inl (cy 0, 5, .inl (fun _ => 0)), .inl (cy 0, 32, .inl (fun _ => 0)), .inl (cy 0, 5, .inl (fun _ => 0))]) 0 2 (dkX3_init (i := 26) rfl) rfl rfl rfl gnX3 (Nat.le_of_ble_eq_true rfl) jfX3_32 (Nat.le_of_ble_eq_true rfl) tyX3_ok nmX3 rfl rfl rfl rfl rfl ?_
  exact qc_ret (dkX3_init (i := 27) rfl) rfl rfl
def tbX4_init : List (Nat × Instr × Nat) := [(0, .aload_n 0, 1), (1, .invokespecial 3, 3), (4, .aload_n 0, 1), (5, .bipush 18, 2), (7, .newarray .long, 2), (9, .putfield 9, 3), (12, .aload_n 0, 1), (13, .iconst (-1), 1), (14, .putfield 15, 3), (17, .aload_n 0, 1), (18, .aload_n 1, 1), (19, .putfield 19, 3), (22, .return_, 1)]
set_option maxRecDepth 20000 in
theorem daX4_init : ∀ x ∈ tbX4_init, decode cX4_init x.1 = .ok x.2 := by decide +kernel
theorem dkX4_init {i pc n : Nat} {ins : Instr} (h : tbX4_init[i]? = some (pc, ins, n)) : decode cX4_init pc = .ok (ins, n) := daX4_init (pc, ins, n) (List.mem_of_getElem? h)
def bkX4_init (cy : Nat → Nat) (B : Nat) (a1 : Nat) : List va_E := [.inr (4, [.ref a1, .ref (B + 1), .int 0, .int 0, .int 0, .int 0, .int 0, .int 0, .int 0, .int (-1)]), .inl (cy 3, 18, .inr (.inl (fun _ => 0)))]
set_option maxRecDepth 20000 in
set_option maxHeartbeats 4000000 in
theorem kcX4_init (l : Launch) (D : va_G) (cy ax : Nat → Nat) (B : Nat) (a1 : Nat) : Kc l D cy ax yX4_init cX4_init 2 1 1 18 [.ref B, .ref a1] B [.inr (4, [.null, .null, .int 0, .int 0, .int 0, .int 0, .int 0, .int 0, .int 0, .int 0])] (bkX4_init cy B a1) := by
  refine kc_of (own := RX4) (lv := [(0, .ref B), (1, .ref a1)]) rfl rfl rfl (Nat.le_of_ble_eq_true rfl) rfl rfl (fun X hX => ?_)
  refine qc_aload_n (n := 1) 0 (dkX4_init (i := 0) rfl) rfl rfl ?_
  refine qc_obj (n := 4) (dkX4_init (i := 1) rfl) rfl koX4_3 kob1 kob2 rfl (Nat.le_of_ble_eq_true rfl) ?_
  refine qc_aload_n (n := 5) 0 (dkX4_init (i := 2) rfl) rfl rfl ?_
  refine qc_bipush (n := 7) 18 (dkX4_init (i := 3) rfl) rfl (by decide) ?_
  refine qc_arr 3 (n := 9) (r := 1) (18, .inr (.inl (fun _ => 0))) (dkX4_init (i := 4) rfl) rfl rfl kac3 rfl (fun _ h => h) (fun _ => rfl) (by decide) (by decide) (by decide) rfl rfl rfl ?_
  refine qc_putF (n := 12) (v := .ref (B + 1)) (es2 := [.inr (4, [.null, .ref (B + 1), .int 0, .int 0, .int 0, .int 0, .int 0, .int 0, .int 0, .int 0]), .inl (cy 3, 18, .inr (.inl (fun _ => 0)))]) 0 1 (dkX4_init (i := 5) rfl) rfl rfl rfl gnX4 (Nat.le_of_ble_eq_true rfl) jfX4_9 (Nat.le_of_ble_eq_true rfl) tyX4_ok nmX4 rfl rfl rfl rfl rfl ?_
  refine qc_aload_n (n := 13) 0 (dkX4_init (i := 6) rfl) rfl rfl ?_
  refine qc_iconst (n := 14) (-1) (dkX4_init (i := 7) rfl) rfl (by decide) ?_
  refine qc_put (n := 17) (v := .int (-1)) (es2 := [.inr (4, [.null, .ref (B + 1), .int 0, .int 0, .int 0, .int 0, .int 0, .int 0, .int 0, .int (-1)]), .inl (cy 3, 18, .inr (.inl (fun _ => 0)))]) 0 9 (dkX4_init (i := 8) rfl) rfl rfl rfl gnX4 (Nat.le_of_ble_eq_true rfl) jfX4_15 (Nat.le_of_ble_eq_true rfl) tyX4_ok nmX4 rfl rfl rfl rfl ?_
  refine qc_aload_n (n := 18) 0 (dkX4_init (i := 9) rfl) rfl rfl ?_
  refine qc_aload_n (n := 19) 1 (dkX4_init (i := 10) rfl) rfl rfl ?_
  refine qc_putF (n := 22) (v := .ref a1) (es2 := [.inr (4, [.ref a1, .ref (B + 1), .int 0, .int 0, .int 0, .int 0, .int 0, .int 0, .int 0, .int (-1)]), .inl (cy 3, 18, .inr (.inl (fun _ => 0)))]) 0 0 (dkX4_init (i := 11) rfl) rfl rfl rfl gnX4 (Nat.le_of_ble_eq_true rfl) jfX4_19 (Nat.le_of_ble_eq_true rfl) tyX4_ok nmX4 rfl rfl rfl rfl rfl ?_
  exact qc_ret (dkX4_init (i := 12) rfl) rfl rfl
def tbX6_init : List (Nat × Instr × Nat) := [(0, .aload_n 0, 1), (1, .invokespecial 3, 3), (4, .aload_n 0, 1), (5, .bipush 8, 2), (7, .newarray .int, 2), (9, .putfield 9, 3), (12, .aload_n 0, 1), (13, .bipush 6, 2), (15, .newarray .int, 2), (17, .putfield 15, 3), (20, .aload_n 0, 1), (21, .bipush 6, 2), (23, .newarray .int, 2), (25, .putfield 18, 3), (28, .aload_n 0, 1), (29, .bipush 6, 2), (31, .newarray .int, 2), (33, .putfield 21, 3), (36, .return_, 1)]
set_option maxRecDepth 20000 in
theorem daX6_init : ∀ x ∈ tbX6_init, decode cX6_init x.1 = .ok x.2 := by decide +kernel
theorem dkX6_init {i pc n : Nat} {ins : Instr} (h : tbX6_init[i]? = some (pc, ins, n)) : decode cX6_init pc = .ok (ins, n) := daX6_init (pc, ins, n) (List.mem_of_getElem? h)
def bkX6_init (cy : Nat → Nat) (B : Nat) : List va_E := [.inr (6, [.int 0, .int 0, .int 0, .int 0, .ref (B + 1), .ref (B + 2), .ref (B + 3), .ref (B + 4)]), .inl (cy 0, 8, .inl (fun _ => 0)), .inl (cy 0, 6, .inl (fun _ => 0)), .inl (cy 0, 6, .inl (fun _ => 0)), .inl (cy 0, 6, .inl (fun _ => 0))]
set_option maxRecDepth 20000 in
set_option maxHeartbeats 4000000 in
theorem kcX6_init (l : Launch) (D : va_G) (cy ax : Nat → Nat) (B : Nat) : Kc l D cy ax yX6_init cX6_init 1 1 4 26 [.ref B] B [.inr (6, [.int 0, .int 0, .int 0, .int 0, .null, .null, .null, .null])] (bkX6_init cy B) := by
  refine kc_of (own := RX6) (lv := [(0, .ref B)]) rfl rfl rfl (Nat.le_of_ble_eq_true rfl) rfl rfl (fun X hX => ?_)
  refine qc_aload_n (n := 1) 0 (dkX6_init (i := 0) rfl) rfl rfl ?_
  refine qc_obj (n := 4) (dkX6_init (i := 1) rfl) rfl koX6_3 kob1 kob2 rfl (Nat.le_of_ble_eq_true rfl) ?_
  refine qc_aload_n (n := 5) 0 (dkX6_init (i := 2) rfl) rfl rfl ?_
  refine qc_bipush (n := 7) 8 (dkX6_init (i := 3) rfl) rfl (by decide) ?_
  refine qc_arr 0 (n := 9) (r := 1) (8, .inl (fun _ => 0)) (dkX6_init (i := 4) rfl) rfl rfl kac0 rfl (fun _ h => h) (fun _ => rfl) (by decide) (by decide) (by decide) rfl rfl rfl ?_
  refine qc_putF (n := 12) (v := .ref (B + 1)) (es2 := [.inr (6, [.int 0, .int 0, .int 0, .int 0, .ref (B + 1), .null, .null, .null]), .inl (cy 0, 8, .inl (fun _ => 0))]) 0 4 (dkX6_init (i := 5) rfl) rfl rfl rfl gnX6 (Nat.le_of_ble_eq_true rfl) jfX6_9 (Nat.le_of_ble_eq_true rfl) tyX6_ok nmX6 rfl rfl rfl rfl rfl ?_
  refine qc_aload_n (n := 13) 0 (dkX6_init (i := 6) rfl) rfl rfl ?_
  refine qc_bipush (n := 15) 6 (dkX6_init (i := 7) rfl) rfl (by decide) ?_
  refine qc_arr 0 (n := 17) (r := 2) (6, .inl (fun _ => 0)) (dkX6_init (i := 8) rfl) rfl rfl kac0 rfl (fun _ h => h) (fun _ => rfl) (by decide) (by decide) (by decide) rfl rfl rfl ?_
  refine qc_putF (n := 20) (v := .ref (B + 2)) (es2 := [.inr (6, [.int 0, .int 0, .int 0, .int 0, .ref (B + 1), .ref (B + 2), .null, .null]), .inl (cy 0, 8, .inl (fun _ => 0)), .inl (cy 0, 6, .inl (fun _ => 0))]) 0 5 (dkX6_init (i := 9) rfl) rfl rfl rfl gnX6 (Nat.le_of_ble_eq_true rfl) jfX6_15 (Nat.le_of_ble_eq_true rfl) tyX6_ok nmX6 rfl rfl rfl rfl rfl ?_
  refine qc_aload_n (n := 21) 0 (dkX6_init (i := 10) rfl) rfl rfl ?_
  refine qc_bipush (n := 23) 6 (dkX6_init (i := 11) rfl) rfl (by decide) ?_
  refine qc_arr 0 (n := 25) (r := 3) (6, .inl (fun _ => 0)) (dkX6_init (i := 12) rfl) rfl rfl kac0 rfl (fun _ h => h) (fun _ => rfl) (by decide) (by decide) (by decide) rfl rfl rfl ?_
  refine qc_putF (n := 28) (v := .ref (B + 3)) (es2 := [.inr (6, [.int 0, .int 0, .int 0, .int 0, .ref (B + 1), .ref (B + 2), .ref (B + 3), .null]), .inl (cy 0, 8, .inl (fun _ => 0)), .inl (cy 0, 6, .inl (fun _ => 0)), .inl (cy 0, 6, .inl (fun _ => 0))]) 0 6 (dkX6_init (i := 13) rfl) rfl rfl rfl gnX6 (Nat.le_of_ble_eq_true rfl) jfX6_18 (Nat.le_of_ble_eq_true rfl) tyX6_ok nmX6 rfl rfl rfl rfl rfl ?_
  refine qc_aload_n (n := 29) 0 (dkX6_init (i := 14) rfl) rfl rfl ?_
  refine qc_bipush (n := 31) 6 (dkX6_init (i := 15) rfl) rfl (by decide) ?_
  refine qc_arr 0 (n := 33) (r := 4) (6, .inl (fun _ => 0)) (dkX6_init (i := 16) rfl) rfl rfl kac0 rfl (fun _ h => h) (fun _ => rfl) (by decide) (by decide) (by decide) rfl rfl rfl ?_
  refine qc_putF (n := 36) (v := .ref (B + 4)) (es2 := [.inr (6, [.int 0, .int 0, .int 0, .int 0, .ref (B + 1), .ref (B + 2), .ref (B + 3), .ref (B + 4)]), .inl (cy 0, 8, .inl (fun _ => 0)), .inl (cy 0, 6, .inl (fun _ => 0)), .inl (cy 0, 6, .inl (fun _ => 0)), .inl (cy 0, 6, .inl (fun _ => 0))]) 0 7 (dkX6_init (i := 17) rfl) rfl rfl rfl gnX6 (Nat.le_of_ble_eq_true rfl) jfX6_21 (Nat.le_of_ble_eq_true rfl) tyX6_ok nmX6 rfl rfl rfl rfl rfl ?_
  exact qc_ret (dkX6_init (i := 18) rfl) rfl rfl
def tbX7_init : List (Nat × Instr × Nat) := [(0, .aload_n 0, 1), (1, .invokespecial 5, 3), (4, .aload_n 0, 1), (5, .sipush 1545, 3), (8, .newarray .int, 2), (10, .putfield 13, 3), (13, .aload_n 0, 1), (14, .sipush 1545, 3), (17, .newarray .int, 2), (19, .putfield 17, 3), (22, .aload_n 0, 1), (23, .iconst (-1), 1), (24, .putfield 20, 3), (27, .aload_n 0, 1), (28, .aload_n 1, 1), (29, .putfield 24, 3), (32, .aload_n 0, 1), (33, .aload_n 2, 1), (34, .putfield 28, 3), (37, .aload_n 0, 1), (38, .aload_n 3, 1), (39, .putfield 32, 3), (42, .return_, 1)]
set_option maxRecDepth 20000 in
theorem daX7_init : ∀ x ∈ tbX7_init, decode cX7_init x.1 = .ok x.2 := by decide +kernel
theorem dkX7_init {i pc n : Nat} {ins : Instr} (h : tbX7_init[i]? = some (pc, ins, n)) : decode cX7_init pc = .ok (ins, n) := daX7_init (pc, ins, n) (List.mem_of_getElem? h)
def bkX7_init (cy : Nat → Nat) (B : Nat) (a1 a2 a3 : Nat) : List va_E := [.inr (7, [.ref a1, .ref a2, .ref a3, .ref (B + 1), .ref (B + 2), .int (-1)]), .inl (cy 0, 1545, .inl (fun _ => 0)), .inl (cy 0, 1545, .inl (fun _ => 0))]
set_option maxRecDepth 20000 in
set_option maxHeartbeats 4000000 in
theorem kcX7_init (l : Launch) (D : va_G) (cy ax : Nat → Nat) (B : Nat) (a1 a2 a3 : Nat) : Kc l D cy ax yX7_init cX7_init 4 1 2 3090 [.ref B, .ref a1, .ref a2, .ref a3] B [.inr (7, [.null, .null, .null, .null, .null, .int 0])] (bkX7_init cy B a1 a2 a3) := by
  refine kc_of (own := RX7) (lv := [(0, .ref B), (1, .ref a1), (2, .ref a2), (3, .ref a3)]) rfl rfl rfl (Nat.le_of_ble_eq_true rfl) rfl rfl (fun X hX => ?_)
  refine qc_aload_n (n := 1) 0 (dkX7_init (i := 0) rfl) rfl rfl ?_
  refine qc_obj (n := 4) (dkX7_init (i := 1) rfl) rfl koX7_5 kob1 kob2 rfl (Nat.le_of_ble_eq_true rfl) ?_
  refine qc_aload_n (n := 5) 0 (dkX7_init (i := 2) rfl) rfl rfl ?_
  refine qc_sipush (n := 8) 1545 (dkX7_init (i := 3) rfl) rfl (by decide) ?_
  refine qc_arr 0 (n := 10) (r := 1) (1545, .inl (fun _ => 0)) (dkX7_init (i := 4) rfl) rfl rfl kac0 rfl (fun _ h => h) (fun _ => rfl) (by decide) (by decide) (by decide) rfl rfl rfl ?_
  refine qc_putF (n := 13) (v := .ref (B + 1)) (es2 := [.inr (7, [.null, .null, .null, .ref (B + 1), .null, .int 0]), .inl (cy 0, 1545, .inl (fun _ => 0))]) 0 3 (dkX7_init (i := 5) rfl) rfl rfl rfl gnX7 (Nat.le_of_ble_eq_true rfl) jfX7_13 (Nat.le_of_ble_eq_true rfl) tyX7_ok nmX7 rfl rfl rfl rfl rfl ?_
  refine qc_aload_n (n := 14) 0 (dkX7_init (i := 6) rfl) rfl rfl ?_
  refine qc_sipush (n := 17) 1545 (dkX7_init (i := 7) rfl) rfl (by decide) ?_
  refine qc_arr 0 (n := 19) (r := 2) (1545, .inl (fun _ => 0)) (dkX7_init (i := 8) rfl) rfl rfl kac0 rfl (fun _ h => h) (fun _ => rfl) (by decide) (by decide) (by decide) rfl rfl rfl ?_
  refine qc_putF (n := 22) (v := .ref (B + 2)) (es2 := [.inr (7, [.null, .null, .null, .ref (B + 1), .ref (B + 2), .int 0]), .inl (cy 0, 1545, .inl (fun _ => 0)), .inl (cy 0, 1545, .inl (fun _ => 0))]) 0 4 (dkX7_init (i := 9) rfl) rfl rfl rfl gnX7 (Nat.le_of_ble_eq_true rfl) jfX7_17 (Nat.le_of_ble_eq_true rfl) tyX7_ok nmX7 rfl rfl rfl rfl rfl ?_
  refine qc_aload_n (n := 23) 0 (dkX7_init (i := 10) rfl) rfl rfl ?_
  refine qc_iconst (n := 24) (-1) (dkX7_init (i := 11) rfl) rfl (by decide) ?_
  refine qc_put (n := 27) (v := .int (-1)) (es2 := [.inr (7, [.null, .null, .null, .ref (B + 1), .ref (B + 2), .int (-1)]), .inl (cy 0, 1545, .inl (fun _ => 0)), .inl (cy 0, 1545, .inl (fun _ => 0))]) 0 5 (dkX7_init (i := 12) rfl) rfl rfl rfl gnX7 (Nat.le_of_ble_eq_true rfl) jfX7_20 (Nat.le_of_ble_eq_true rfl) tyX7_ok nmX7 rfl rfl rfl rfl ?_
  refine qc_aload_n (n := 28) 0 (dkX7_init (i := 13) rfl) rfl rfl ?_
  refine qc_aload_n (n := 29) 1 (dkX7_init (i := 14) rfl) rfl rfl ?_
  refine qc_putF (n := 32) (v := .ref a1) (es2 := [.inr (7, [.ref a1, .null, .null, .ref (B + 1), .ref (B + 2), .int (-1)]), .inl (cy 0, 1545, .inl (fun _ => 0)), .inl (cy 0, 1545, .inl (fun _ => 0))]) 0 0 (dkX7_init (i := 15) rfl) rfl rfl rfl gnX7 (Nat.le_of_ble_eq_true rfl) jfX7_24 (Nat.le_of_ble_eq_true rfl) tyX7_ok nmX7 rfl rfl rfl rfl rfl ?_
  refine qc_aload_n (n := 33) 0 (dkX7_init (i := 16) rfl) rfl rfl ?_
  refine qc_aload_n (n := 34) 2 (dkX7_init (i := 17) rfl) rfl rfl ?_
  refine qc_putF (n := 37) (v := .ref a2) (es2 := [.inr (7, [.ref a1, .ref a2, .null, .ref (B + 1), .ref (B + 2), .int (-1)]), .inl (cy 0, 1545, .inl (fun _ => 0)), .inl (cy 0, 1545, .inl (fun _ => 0))]) 0 1 (dkX7_init (i := 18) rfl) rfl rfl rfl gnX7 (Nat.le_of_ble_eq_true rfl) jfX7_28 (Nat.le_of_ble_eq_true rfl) tyX7_ok nmX7 rfl rfl rfl rfl rfl ?_
  refine qc_aload_n (n := 38) 0 (dkX7_init (i := 19) rfl) rfl rfl ?_
  refine qc_aload_n (n := 39) 3 (dkX7_init (i := 20) rfl) rfl rfl ?_
  refine qc_putF (n := 42) (v := .ref a3) (es2 := [.inr (7, [.ref a1, .ref a2, .ref a3, .ref (B + 1), .ref (B + 2), .int (-1)]), .inl (cy 0, 1545, .inl (fun _ => 0)), .inl (cy 0, 1545, .inl (fun _ => 0))]) 0 2 (dkX7_init (i := 21) rfl) rfl rfl rfl gnX7 (Nat.le_of_ble_eq_true rfl) jfX7_32 (Nat.le_of_ble_eq_true rfl) tyX7_ok nmX7 rfl rfl rfl rfl rfl ?_
  exact qc_ret (dkX7_init (i := 22) rfl) rfl rfl
def tbX8_init : List (Nat × Instr × Nat) := [(0, .aload_n 0, 1), (1, .invokespecial 1, 3), (4, .aload_n 0, 1), (5, .sipush 2000, 3), (8, .newarray .byte, 2), (10, .putfield 9, 3), (13, .return_, 1)]
set_option maxRecDepth 20000 in
theorem daX8_init : ∀ x ∈ tbX8_init, decode cX8_init x.1 = .ok x.2 := by decide +kernel
theorem dkX8_init {i pc n : Nat} {ins : Instr} (h : tbX8_init[i]? = some (pc, ins, n)) : decode cX8_init pc = .ok (ins, n) := daX8_init (pc, ins, n) (List.mem_of_getElem? h)
def bkX8_init (cy : Nat → Nat) (B : Nat) : List va_E := [.inr (8, [.ref (B + 1), .int 0]), .inl (cy 1, 2000, .inl (fun _ => 0))]
set_option maxRecDepth 20000 in
set_option maxHeartbeats 4000000 in
theorem kcX8_init (l : Launch) (D : va_G) (cy ax : Nat → Nat) (B : Nat) : Kc l D cy ax yX8_init cX8_init 1 1 1 2000 [.ref B] B [.inr (8, [.null, .int 0])] (bkX8_init cy B) := by
  refine kc_of (own := RX8) (lv := [(0, .ref B)]) rfl rfl rfl (Nat.le_of_ble_eq_true rfl) rfl rfl (fun X hX => ?_)
  refine qc_aload_n (n := 1) 0 (dkX8_init (i := 0) rfl) rfl rfl ?_
  refine qc_obj (n := 4) (dkX8_init (i := 1) rfl) rfl koX8_1 kob1 kob2 rfl (Nat.le_of_ble_eq_true rfl) ?_
  refine qc_aload_n (n := 5) 0 (dkX8_init (i := 2) rfl) rfl rfl ?_
  refine qc_sipush (n := 8) 2000 (dkX8_init (i := 3) rfl) rfl (by decide) ?_
  refine qc_arr 1 (n := 10) (r := 1) (2000, .inl (fun _ => 0)) (dkX8_init (i := 4) rfl) rfl rfl kac1 rfl (fun _ h => h) (fun _ => rfl) (by decide) (by decide) (by decide) rfl rfl rfl ?_
  refine qc_putF (n := 13) (v := .ref (B + 1)) (es2 := [.inr (8, [.ref (B + 1), .int 0]), .inl (cy 1, 2000, .inl (fun _ => 0))]) 0 0 (dkX8_init (i := 5) rfl) rfl rfl rfl gnX8 (Nat.le_of_ble_eq_true rfl) jfX8_9 (Nat.le_of_ble_eq_true rfl) tyX8_ok nmX8 rfl rfl rfl rfl rfl ?_
  exact qc_ret (dkX8_init (i := 6) rfl) rfl rfl
def tbX9_init : List (Nat × Instr × Nat) := [(0, .aload_n 0, 1), (1, .invokespecial 3, 3), (4, .aload_n 0, 1), (5, .sipush 401, 3), (8, .newarray .int, 2), (10, .putfield 11, 3), (13, .aload_n 0, 1), (14, .sipush 401, 3), (17, .newarray .int, 2), (19, .putfield 15, 3), (22, .aload_n 0, 1), (23, .sipush 401, 3), (26, .newarray .long, 2), (28, .putfield 18, 3), (31, .return_, 1)]
set_option maxRecDepth 20000 in
theorem daX9_init : ∀ x ∈ tbX9_init, decode cX9_init x.1 = .ok x.2 := by decide +kernel
theorem dkX9_init {i pc n : Nat} {ins : Instr} (h : tbX9_init[i]? = some (pc, ins, n)) : decode cX9_init pc = .ok (ins, n) := daX9_init (pc, ins, n) (List.mem_of_getElem? h)
def bkX9_init (cy : Nat → Nat) (B : Nat) : List va_E := [.inr (9, [.ref (B + 1), .ref (B + 2), .ref (B + 3), .int 0, .int 0]), .inl (cy 0, 401, .inl (fun _ => 0)), .inl (cy 0, 401, .inl (fun _ => 0)), .inl (cy 3, 401, .inr (.inl (fun _ => 0)))]
set_option maxRecDepth 20000 in
set_option maxHeartbeats 4000000 in
theorem kcX9_init (l : Launch) (D : va_G) (cy ax : Nat → Nat) (B : Nat) : Kc l D cy ax yX9_init cX9_init 1 1 3 1203 [.ref B] B [.inr (9, [.null, .null, .null, .int 0, .int 0])] (bkX9_init cy B) := by
  refine kc_of (own := RX9) (lv := [(0, .ref B)]) rfl rfl rfl (Nat.le_of_ble_eq_true rfl) rfl rfl (fun X hX => ?_)
  refine qc_aload_n (n := 1) 0 (dkX9_init (i := 0) rfl) rfl rfl ?_
  refine qc_obj (n := 4) (dkX9_init (i := 1) rfl) rfl koX9_3 kob1 kob2 rfl (Nat.le_of_ble_eq_true rfl) ?_
  refine qc_aload_n (n := 5) 0 (dkX9_init (i := 2) rfl) rfl rfl ?_
  refine qc_sipush (n := 8) 401 (dkX9_init (i := 3) rfl) rfl (by decide) ?_
  refine qc_arr 0 (n := 10) (r := 1) (401, .inl (fun _ => 0)) (dkX9_init (i := 4) rfl) rfl rfl kac0 rfl (fun _ h => h) (fun _ => rfl) (by decide) (by decide) (by decide) rfl rfl rfl ?_
  refine qc_putF (n := 13) (v := .ref (B + 1)) (es2 := [.inr (9, [.ref (B + 1), .null, .null, .int 0, .int 0]), .inl (cy 0, 401, .inl (fun _ => 0))]) 0 0 (dkX9_init (i := 5) rfl) rfl rfl rfl gnX9 (Nat.le_of_ble_eq_true rfl) jfX9_11 (Nat.le_of_ble_eq_true rfl) tyX9_ok nmX9 rfl rfl rfl rfl rfl ?_
  refine qc_aload_n (n := 14) 0 (dkX9_init (i := 6) rfl) rfl rfl ?_
  refine qc_sipush (n := 17) 401 (dkX9_init (i := 7) rfl) rfl (by decide) ?_
  refine qc_arr 0 (n := 19) (r := 2) (401, .inl (fun _ => 0)) (dkX9_init (i := 8) rfl) rfl rfl kac0 rfl (fun _ h => h) (fun _ => rfl) (by decide) (by decide) (by decide) rfl rfl rfl ?_
  refine qc_putF (n := 22) (v := .ref (B + 2)) (es2 := [.inr (9, [.ref (B + 1), .ref (B + 2), .null, .int 0, .int 0]), .inl (cy 0, 401, .inl (fun _ => 0)), .inl (cy 0, 401, .inl (fun _ => 0))]) 0 1 (dkX9_init (i := 9) rfl) rfl rfl rfl gnX9 (Nat.le_of_ble_eq_true rfl) jfX9_15 (Nat.le_of_ble_eq_true rfl) tyX9_ok nmX9 rfl rfl rfl rfl rfl ?_
  refine qc_aload_n (n := 23) 0 (dkX9_init (i := 10) rfl) rfl rfl ?_
  refine qc_sipush (n := 26) 401 (dkX9_init (i := 11) rfl) rfl (by decide) ?_
  refine qc_arr 3 (n := 28) (r := 3) (401, .inr (.inl (fun _ => 0))) (dkX9_init (i := 12) rfl) rfl rfl kac3 rfl (fun _ h => h) (fun _ => rfl) (by decide) (by decide) (by decide) rfl rfl rfl ?_
  refine qc_putF (n := 31) (v := .ref (B + 3)) (es2 := [.inr (9, [.ref (B + 1), .ref (B + 2), .ref (B + 3), .int 0, .int 0]), .inl (cy 0, 401, .inl (fun _ => 0)), .inl (cy 0, 401, .inl (fun _ => 0)), .inl (cy 3, 401, .inr (.inl (fun _ => 0)))]) 0 2 (dkX9_init (i := 13) rfl) rfl rfl rfl gnX9 (Nat.le_of_ble_eq_true rfl) jfX9_18 (Nat.le_of_ble_eq_true rfl) tyX9_ok nmX9 rfl rfl rfl rfl rfl ?_
  exact qc_ret (dkX9_init (i := 14) rfl) rfl rfl
def tbX10_init : List (Nat × Instr × Nat) := [(0, .aload_n 0, 1), (1, .invokespecial 3, 3), (4, .aload_n 0, 1), (5, .sipush 1000, 3), (8, .newarray .int, 2), (10, .putfield 11, 3), (13, .aload_n 0, 1), (14, .aload_n 1, 1), (15, .putfield 15, 3), (18, .aload_n 0, 1), (19, .aload_n 2, 1), (20, .putfield 19, 3), (23, .return_, 1)]
set_option maxRecDepth 20000 in
theorem daX10_init : ∀ x ∈ tbX10_init, decode cX10_init x.1 = .ok x.2 := by decide +kernel
theorem dkX10_init {i pc n : Nat} {ins : Instr} (h : tbX10_init[i]? = some (pc, ins, n)) : decode cX10_init pc = .ok (ins, n) := daX10_init (pc, ins, n) (List.mem_of_getElem? h)
def bkX10_init (cy : Nat → Nat) (B : Nat) (a1 a2 : Nat) : List va_E := [.inr (10, [.ref a1, .ref a2, .ref (B + 1), .int 0]), .inl (cy 0, 1000, .inl (fun _ => 0))]
set_option maxRecDepth 20000 in
set_option maxHeartbeats 4000000 in
theorem kcX10_init (l : Launch) (D : va_G) (cy ax : Nat → Nat) (B : Nat) (a1 a2 : Nat) : Kc l D cy ax yX10_init cX10_init 3 1 1 1000 [.ref B, .ref a1, .ref a2] B [.inr (10, [.null, .null, .null, .int 0])] (bkX10_init cy B a1 a2) := by
  refine kc_of (own := RX10) (lv := [(0, .ref B), (1, .ref a1), (2, .ref a2)]) rfl rfl rfl (Nat.le_of_ble_eq_true rfl) rfl rfl (fun X hX => ?_)
  refine qc_aload_n (n := 1) 0 (dkX10_init (i := 0) rfl) rfl rfl ?_
  refine qc_obj (n := 4) (dkX10_init (i := 1) rfl) rfl koX10_3 kob1 kob2 rfl (Nat.le_of_ble_eq_true rfl) ?_
  refine qc_aload_n (n := 5) 0 (dkX10_init (i := 2) rfl) rfl rfl ?_
  refine qc_sipush (n := 8) 1000 (dkX10_init (i := 3) rfl) rfl (by decide) ?_
  refine qc_arr 0 (n := 10) (r := 1) (1000, .inl (fun _ => 0)) (dkX10_init (i := 4) rfl) rfl rfl kac0 rfl (fun _ h => h) (fun _ => rfl) (by decide) (by decide) (by decide) rfl rfl rfl ?_
  refine qc_putF (n := 13) (v := .ref (B + 1)) (es2 := [.inr (10, [.null, .null, .ref (B + 1), .int 0]), .inl (cy 0, 1000, .inl (fun _ => 0))]) 0 2 (dkX10_init (i := 5) rfl) rfl rfl rfl gnX10 (Nat.le_of_ble_eq_true rfl) jfX10_11 (Nat.le_of_ble_eq_true rfl) tyX10_ok nmX10 rfl rfl rfl rfl rfl ?_
  refine qc_aload_n (n := 14) 0 (dkX10_init (i := 6) rfl) rfl rfl ?_
  refine qc_aload_n (n := 15) 1 (dkX10_init (i := 7) rfl) rfl rfl ?_
  refine qc_putF (n := 18) (v := .ref a1) (es2 := [.inr (10, [.ref a1, .null, .ref (B + 1), .int 0]), .inl (cy 0, 1000, .inl (fun _ => 0))]) 0 0 (dkX10_init (i := 8) rfl) rfl rfl rfl gnX10 (Nat.le_of_ble_eq_true rfl) jfX10_15 (Nat.le_of_ble_eq_true rfl) tyX10_ok nmX10 rfl rfl rfl rfl rfl ?_
  refine qc_aload_n (n := 19) 0 (dkX10_init (i := 9) rfl) rfl rfl ?_
  refine qc_aload_n (n := 20) 2 (dkX10_init (i := 10) rfl) rfl rfl ?_
  refine qc_putF (n := 23) (v := .ref a2) (es2 := [.inr (10, [.ref a1, .ref a2, .ref (B + 1), .int 0]), .inl (cy 0, 1000, .inl (fun _ => 0))]) 0 1 (dkX10_init (i := 11) rfl) rfl rfl rfl gnX10 (Nat.le_of_ble_eq_true rfl) jfX10_19 (Nat.le_of_ble_eq_true rfl) tyX10_ok nmX10 rfl rfl rfl rfl rfl ?_
  exact qc_ret (dkX10_init (i := 12) rfl) rfl rfl
end
section
def tbX1_init : List (Nat × Instr × Nat) := [(0, .aload_n 0, 1), (1, .invokespecial 1, 3), (4, .aload_n 0, 1), (5, .bipush 40, 2), (7, .anewarray 9, 3), (10, .putfield 11, 3), (13, .iconst 0, 1), (14, .istore_n 1, 1), (15, .iload_n 1, 1), (16, .bipush 40, 2), (18, .if_icmp .ge 22, 3), (21, .aload_n 0, 1), (22, .getfield 11, 3), (25, .iload_n 1, 1), (26, .new 9, 3), (29, .dup, 1), (30, .invokespecial 15, 3), (33, .aastore, 1), (34, .iinc 1 1, 3), (37, .goto (-22), 3), (40, .return_, 1)]
set_option maxRecDepth 20000 in
theorem daX1_init : ∀ x ∈ tbX1_init, decode cX1_init x.1 = .ok x.2 := by decide +kernel
theorem dkX1_init {i pc n : Nat} {ins : Instr} (h : tbX1_init[i]? = some (pc, ins, n)) : decode cX1_init pc = .ok (ins, n) := daX1_init (pc, ins, n) (List.mem_of_getElem? h)
theorem ko_hist : Cond.methodLink RX1 1 Lib.objectInit ∈ gw_tbl := gw_ix 382 (by decide +kernel)
theorem kcl_hist : Cond.classLink RX1 9 "QuietTake$State" ∈ gw_tbl := gw_ix 383 (by decide +kernel)
theorem kin_st : Cond.instantiable RX6 8 ∈ gw_tbl := gw_ix 335 (by decide +kernel)
theorem kini_st : Cond.initialized RX6 ∈ gw_tbl := gw_ix 102 (by decide +kernel)
theorem jfh_11 : Cond.fieldLink RX1 11 (TX1 0).1 (TX1 0).2.1 (TX1 0).2.2.1 ∈ gw_tbl := gw_ix 386 (by decide +kernel)
theorem kcv_st : (Cond.instanceMethod yX6_init ∈ gw_tbl ∧ Cond.initialized yX6_init.cls ∈ gw_tbl ∧ Cond.code yX6_init cX6_init 1 none ∈ gw_tbl) ∧ (yX6_init.cls ≠ "java/lang/invoke/MethodHandle" ∧ yX6_init.cls ≠ "java/lang/invoke/VarHandle" ∧ (parseMethodDescriptor yX6_init.desc).map (fun d => d.parameters.length) = some 0) := ⟨⟨gw_ix 337 (by decide +kernel), gw_ix 102 (by decide +kernel), gw_ix 338 (by decide +kernel)⟩, by decide +kernel⟩
theorem dfX6 : ∀ j, j < 8 → defaultValue (tyX6 j) = vp_V [.int 0, .int 0, .int 0, .int 0, .null, .null, .null, .null] j := by
  intro j hj
  rcases (show j = 0 ∨ j = 1 ∨ j = 2 ∨ j = 3 ∨ j = 4 ∨ j = 5 ∨ j = 6 ∨ j = 7 by omega) with rfl | rfl | rfl | rfl | rfl | rfl | rfl | rfl <;> rfl
def hi_sts (cy : Nat → Nat) (B : Nat) : Nat → List va_E
  | 0 => []
  | i + 1 => hi_sts cy B i ++ bkX6_init cy (B + (2 + 5 * i))
def hi_f (B i : Nat) : Nat → Option Nat := fun k => if k < i then some (B + (2 + 5 * k)) else none
def hi_es (cy : Nat → Nat) (B i : Nat) : List va_E := [.inr (1, [.ref (B + 1), .int 0, .int 0]), .inl (cy 4, 40, .inr (.inr (.inr (.inr (hi_f B i)))))] ++ hi_sts cy B i
theorem hi_len (cy : Nat → Nat) (B : Nat) : ∀ i, (hi_sts cy B i).length = 5 * i
  | 0 => rfl
  | i + 1 => by
    rw [hi_sts, List.length_append, hi_len cy B i]
    show 5 * i + 5 = _
    omega
theorem hi_esl (cy : Nat → Nat) (B i : Nat) : (hi_es cy B i).length = 2 + 5 * i := by
  rw [hi_es, List.length_append, hi_len]; rfl
theorem hi_up (B i : Nat) : va_up (hi_f B i) i (some (B + (2 + 5 * i))) = hi_f B (i + 1) := by
  funext k
  by_cases h : k = i
  · subst h; simp [va_up, hi_f]
  · simp only [va_up, if_neg h, hi_f]
    by_cases h2 : k < i
    · rw [if_pos h2, if_pos (by omega)]
    · rw [if_neg h2, if_neg (by omega)]
abbrev bkX1_init (cy : Nat → Nat) (B : Nat) : List va_E := hi_es cy B 40
set_option maxRecDepth 20000 in
set_option maxHeartbeats 4000000 in
theorem hi_loop (l : Launch) (D : va_G) (cy ax : Nat → Nat) (B : Nat) (X : qv_XT) : ∀ (k i : Nat), i + k = 40 → VC l D cy ax B X RX1 cX1_init 2 2 201 1400 15 [(0, .ref B), (1, .int (nI i))] [] (hi_es cy B i) (1 + 5 * i) (40 + 34 * i) (MQ X.2.2.2.2.2.1 (qc_Q D B (bkX1_init cy B)) X.2.2.2.2.1 X.2.2.1 201 1400 (qc_A B)) := by
  intro k
  induction k with
  | zero =>
    intro i hi
    obtain rfl : i = 40 := by omega
    refine qc_iload_n (n := 16) 1 (dkX1_init (i := 8) rfl) rfl rfl ?_
    refine qc_bipush (n := 18) 40 (dkX1_init (i := 9) rfl) rfl (by decide) ?_
    refine qc_icmp_ge (t := 40) (n := 21) (dkX1_init (i := 10) rfl) (by decide) rfl (fun _ => ?_) (fun h => absurd (by decide) h)
    exact qc_ret (dkX1_init (i := 20) rfl) rfl rfl
  | succ k ih =>
    intro i hi
    have hi40 : i < 40 := by omega
    refine qc_iload_n (n := 16) 1 (dkX1_init (i := 8) rfl) rfl rfl ?_
    refine qc_bipush (n := 18) 40 (dkX1_init (i := 9) rfl) rfl (by decide) ?_
    refine qc_icmp_ge (t := 40) (n := 21) (dkX1_init (i := 10) rfl) (by decide) rfl (fun h => absurd h (nI_ge (b := 40) hi40 (by decide))) (fun _ => ?_)
    refine qc_aload_n (n := 22) 0 (dkX1_init (i := 11) rfl) rfl rfl ?_
    refine qc_get (n := 25) 0 0 (.ref (B + 1)) (dkX1_init (i := 12) rfl) rfl rfl rfl gnX1 (Nat.le_of_ble_eq_true rfl) jfh_11 rfl ?_
    refine qc_iload_n (n := 26) 1 (dkX1_init (i := 13) rfl) rfl rfl ?_
    refine qc_new (n := 29) (r := 2 + 5 * i) tyX6 [.int 0, .int 0, .int 0, .int 0, .null, .null, .null, .null] (dkX1_init (i := 14) rfl) rfl (ci := 6) rfl gnX6 tyX6_ok dfX6 kcl_hist kin_st kini_st (Nat.ble_eq_true_of_le (by omega)) (Nat.ble_eq_true_of_le (by omega)) (hi_esl cy B i) ?_
    refine qc_dup (n := 30) (dkX1_init (i := 15) rfl) rfl rfl ?_
    refine qc_callN (n := 33) (w := hi_es cy B i) (d := [.inr (6, [.int 0, .int 0, .int 0, .int 0, .null, .null, .null, .null])]) (d2 := bkX6_init cy (B + (2 + 5 * i))) (cN2 := 4) (sN2 := 26) [] (dkX1_init (i := 16) rfl) rfl rfl rfl (by rw [hi_esl]) rfl rfl rfl (fun A U h => h.2.2.2.2.2.1) kcv_st (by simp [Value.category]) rfl rfl (Nat.ble_eq_true_of_le (by omega)) (Nat.ble_eq_true_of_le (by omega)) (kcX6_init l D cy ax (B + (2 + 5 * i))) ?_
    refine qc_aast (n := 34) 1 (2 + 5 * i) (N := 40) (f := hi_f B i) (ci := 6) (vs := [.int 0, .int 0, .int 0, .int 0, .ref (B + (2 + 5 * i) + 1), .ref (B + (2 + 5 * i) + 2), .ref (B + (2 + 5 * i) + 3), .ref (B + (2 + 5 * i) + 4)]) (es2 := hi_es cy B (i + 1)) (dkX1_init (i := 17) rfl) rfl rfl ?_ rfl (vp_in_nI hi40 (by decide)) ?_ ?_
    · rw [List.getElem?_append_right (by rw [hi_esl]; exact Nat.le_refl _), hi_esl, Nat.sub_self]
      rfl
    · rw [nI_clamp (by omega), hi_up]
      show _ :: _ :: (hi_sts cy B i ++ _) = _
      rfl
    · refine qc_iinc (n := 37) (v := nI (i + 1)) (lv2 := [(0, .ref B), (1, .int (nI (i + 1)))]) 1 [1, 0] (dkX1_init (i := 18) rfl) rfl rfl (nI_1 i) (by decide) rfl ?_
      refine qc_goto (n := 15) (dkX1_init (i := 19) rfl) (by decide) ?_
      have h9 := ih (i + 1) (by omega)
      rw [show 1 + 5 * (i + 1) = 1 + 5 * i + 1 + 4 by omega, show 40 + 34 * (i + 1) = 40 + 34 * i + 8 + 26 by omega] at h9
      exact h9
set_option maxRecDepth 20000 in
set_option maxHeartbeats 4000000 in
theorem kcX1_init (l : Launch) (D : va_G) (cy ax : Nat → Nat) (B : Nat) : Kc l D cy ax yX1_init cX1_init 2 2 201 1400 [.ref B] B [.inr (1, [.null, .int 0, .int 0])] (bkX1_init cy B) := by
  refine kc_of (own := RX1) (lv := [(0, .ref B)]) rfl rfl rfl (Nat.le_of_ble_eq_true rfl) rfl rfl (fun X hX => ?_)
  refine qc_aload_n (n := 1) 0 (dkX1_init (i := 0) rfl) rfl rfl ?_
  refine qc_obj (n := 4) (dkX1_init (i := 1) rfl) rfl ko_hist kob1 kob2 rfl (Nat.le_of_ble_eq_true rfl) ?_
  refine qc_aload_n (n := 5) 0 (dkX1_init (i := 2) rfl) rfl rfl ?_
  refine qc_bipush (n := 7) 40 (dkX1_init (i := 3) rfl) rfl (by decide) ?_
  refine qc_arrq (n := 10) (N := 40) (r := 1) (dkX1_init (i := 4) rfl) rfl kcl_hist (by decide) (by decide) (by decide) rfl rfl rfl ?_
  refine qc_putF (n := 13) (v := .ref (B + 1)) (es2 := hi_es cy B 0) 0 0 (dkX1_init (i := 5) rfl) rfl rfl rfl gnX1 (Nat.le_of_ble_eq_true rfl) jfh_11 (Nat.le_of_ble_eq_true rfl) tyX1_ok nmX1 rfl rfl rfl rfl ?_ ?_
  · show _ = ([.inr (1, [.ref (B + 1), .int 0, .int 0]), .inl (cy 4, 40, .inr (.inr (.inr (.inr (hi_f B 0)))))] : List va_E)
    rw [show hi_f B 0 = fun _ => none from by funext k; simp [hi_f]]
    rfl
  · refine qc_iconst (n := 14) 0 (dkX1_init (i := 6) rfl) rfl (by decide) ?_
    refine qc_istore_n (n := 15) (lv2 := [(0, .ref B), (1, .int 0)]) [1, 0] (dkX1_init (i := 7) rfl) rfl rfl (by decide) rfl ?_
    exact hi_loop l D cy ax B X 40 0 rfl
/-! a layout's cells, one behind another, so that a machine can hold two lists of them against each other -/
def qc_gf (ad : Nat → Nat) (S : qv_St) (q : Nat) : Nat → List (Option Nat) → List Value
  | _, [] => []
  | j, f :: t => qv_fv ad S q j f :: qc_gf ad S q (j + 1) t
theorem qc_gf_eq (ad : Nat → Nat) (S : qv_St) (q : Nat) : ∀ (fs : List (Option Nat)) (n : Nat), fs.mapIdx (fun i f => qv_fv ad S q (i + n) f) = qc_gf ad S q n fs
  | [], _ => rfl
  | f :: t, n => by
    rw [List.mapIdx_cons, qc_gf, ← qc_gf_eq ad S q t (n + 1)]
    congr 1
    · rw [Nat.zero_add]
    · congr 1
      funext i f
      rw [show i + 1 + n = i + (n + 1) by omega]
def qc_gc (ad : Nat → Nat) (cy : Nat → ClassId) (S : qv_St) (q : Nat) (c : qv_Lc) : va_E := match c with
  | .inl o => .inr (o.1, qc_gf ad S q 0 o.2)
  | .inr a => if a.1 = 4 then .inl (cy 4, a.2.1, .inr (.inr (.inr (.inr (fun i => (a.2.2[i]?).map ad))))) else if a.1 = 3 then .inl (cy 3, a.2.1, .inr (.inl (S.2 q))) else .inl (cy a.1, a.2.1, .inl (S.1 q))
theorem qc_gc_eq {ad : Nat → Nat} {cy : Nat → ClassId} {S : qv_St} {q : Nat} {c : qv_Lc} : qv_cell ad cy S q c = qc_gc ad cy S q c := by
  cases c with
  | inl o =>
    simp only [qv_cell, qc_gc]
    rw [← qc_gf_eq ad S q o.2 0]
    rfl
  | inr a => rfl
def qc_go (ad : Nat → Nat) (cy : Nat → ClassId) (S : qv_St) : Nat → List qv_Lc → List va_E
  | _, [] => []
  | q, c :: t => qc_gc ad cy S q c :: qc_go ad cy S (q + 1) t
theorem qc_go_eq (ad : Nat → Nat) (cy : Nat → ClassId) (S : qv_St) : ∀ (L : List qv_Lc) (n : Nat), L.mapIdx (fun q c => qv_cell ad cy S (q + n) c) = qc_go ad cy S n L
  | [], _ => rfl
  | c :: t, n => by
    rw [List.mapIdx_cons, qc_go, ← qc_go_eq ad cy S t (n + 1)]
    congr 1
    · rw [Nat.zero_add, qc_gc_eq]
    · congr 1
      funext i c
      rw [show i + 1 + n = i + (n + 1) by omega]
theorem qc_es_go {ad : Nat → Nat} {cy : Nat → ClassId} {L : List qv_Lc} {S : qv_St} : qc_es ad cy L S = qc_go ad cy S 0 L := by
  rw [← qc_go_eq ad cy S L 0]
  rfl
end
section
def Ls : List qv_Lc := [.inl (5, [none, none, none, some 1, some 2, some 3, some 4, some 5, some 6, some 7, some 8, some 9, some 10, some 14, some 18, none, none, none]), .inr (2, 8, []), .inr (0, 8, []), .inr (0, 8, []), .inr (0, 8, []), .inr (0, 8, []), .inr (0, 8, []), .inr (0, 4, []), .inr (0, 6, []), .inr (0, 6, []), .inl (2, [some 11, some 12, some 13, none, none]), .inr (0, 400, []), .inr (0, 32, []), .inr (0, 32, []), .inl (2, [some 15, some 16, some 17, none, none]), .inr (0, 400, []), .inr (0, 32, []), .inr (0, 32, []), .inl (2, [some 19, some 20, some 21, none, none]), .inr (0, 400, []), .inr (0, 32, []), .inr (0, 32, [])]
theorem lsO_0 : Ls[0]? = some (.inl (5, [none, none, none, some 1, some 2, some 3, some 4, some 5, some 6, some 7, some 8, some 9, some 10, some 14, some 18, none, none, none])) := rfl
theorem lsA_1 : Ls[1]? = some (.inr (2, 8, [])) := rfl
theorem lsA_2 : Ls[2]? = some (.inr (0, 8, [])) := rfl
theorem lsA_3 : Ls[3]? = some (.inr (0, 8, [])) := rfl
theorem lsA_4 : Ls[4]? = some (.inr (0, 8, [])) := rfl
theorem lsA_5 : Ls[5]? = some (.inr (0, 8, [])) := rfl
theorem lsA_6 : Ls[6]? = some (.inr (0, 8, [])) := rfl
theorem lsA_7 : Ls[7]? = some (.inr (0, 4, [])) := rfl
theorem lsA_8 : Ls[8]? = some (.inr (0, 6, [])) := rfl
theorem lsA_9 : Ls[9]? = some (.inr (0, 6, [])) := rfl
theorem lsO_10 : Ls[10]? = some (.inl (2, [some 11, some 12, some 13, none, none])) := rfl
theorem lsA_11 : Ls[11]? = some (.inr (0, 400, [])) := rfl
theorem lsA_12 : Ls[12]? = some (.inr (0, 32, [])) := rfl
theorem lsA_13 : Ls[13]? = some (.inr (0, 32, [])) := rfl
theorem lsO_14 : Ls[14]? = some (.inl (2, [some 15, some 16, some 17, none, none])) := rfl
theorem lsA_15 : Ls[15]? = some (.inr (0, 400, [])) := rfl
theorem lsA_16 : Ls[16]? = some (.inr (0, 32, [])) := rfl
theorem lsA_17 : Ls[17]? = some (.inr (0, 32, [])) := rfl
theorem lsO_18 : Ls[18]? = some (.inl (2, [some 19, some 20, some 21, none, none])) := rfl
theorem lsA_19 : Ls[19]? = some (.inr (0, 400, [])) := rfl
theorem lsA_20 : Ls[20]? = some (.inr (0, 32, [])) := rfl
theorem lsA_21 : Ls[21]? = some (.inr (0, 32, [])) := rfl
abbrev isLs (q : Nat) : Prop := Ls[q]? = some (.inl (2, [some (q + 1), some (q + 2), some (q + 3), none, none])) ∧ Ls[q + 1]? = some (.inr (0, 400, [])) ∧ Ls[q + 2]? = some (.inr (0, 32, [])) ∧ Ls[q + 3]? = some (.inr (0, 32, []))
theorem isLs_10 : isLs 10 := ⟨rfl, rfl, rfl, rfl⟩
theorem isLs_14 : isLs 14 := ⟨rfl, rfl, rfl, rfl⟩
theorem isLs_18 : isLs 18 := ⟨rfl, rfl, rfl, rfl⟩
theorem skvX2_27 : qv_cv RX2 27 yX2_emit cX2_emit 2 none 1 := ⟨⟨gw_ix 245 (by decide +kernel), gw_ix 247 (by decide +kernel), gw_ix 1 (by decide +kernel), gw_ix 101 (by decide +kernel), gw_ix 248 (by decide +kernel)⟩, by decide +kernel⟩
theorem skvX5_66 : qv_cv RX5 66 yX2_becomeOnly cX2_becomeOnly 2 none 1 := ⟨⟨gw_ix 241 (by decide +kernel), gw_ix 242 (by decide +kernel), gw_ix 243 (by decide +kernel), gw_ix 101 (by decide +kernel), gw_ix 244 (by decide +kernel)⟩, by decide +kernel⟩
theorem skfX2_11 : Cond.fieldLink RX2 11 (TX2 0).1 (TX2 0).2.1 (TX2 0).2.2.1 ∈ gw_tbl := gw_ix 220 (by decide +kernel)
theorem skfX2_23 : Cond.fieldLink RX2 23 (TX2 3).1 (TX2 3).2.1 (TX2 3).2.2.1 ∈ gw_tbl := gw_ix 223 (by decide +kernel)
theorem skfX5_43 : Cond.fieldLink RX5 43 (TX5 12).1 (TX5 12).2.1 (TX5 12).2.2.1 ∈ gw_tbl := gw_ix 285 (by decide +kernel)
theorem skfX5_47 : Cond.fieldLink RX5 47 (TX5 13).1 (TX5 13).2.1 (TX5 13).2.2.1 ∈ gw_tbl := gw_ix 287 (by decide +kernel)
theorem skfX5_50 : Cond.fieldLink RX5 50 (TX5 14).1 (TX5 14).2.1 (TX5 14).2.2.1 ∈ gw_tbl := gw_ix 289 (by decide +kernel)
theorem skfX5_56 : Cond.fieldLink RX5 56 (TX5 0).1 (TX5 0).2.1 (TX5 0).2.2.1 ∈ gw_tbl := gw_ix 249 (by decide +kernel)
theorem skfX5_60 : Cond.fieldLink RX5 60 (TX5 1).1 (TX5 1).2.1 (TX5 1).2.2.1 ∈ gw_tbl := gw_ix 253 (by decide +kernel)
theorem skfX5_63 : Cond.fieldLink RX5 63 (TX5 2).1 (TX5 2).2.1 (TX5 2).2.2.1 ∈ gw_tbl := gw_ix 256 (by decide +kernel)
theorem skfX5_70 : Cond.fieldLink RX5 70 (TX5 15).1 (TX5 15).2.1 (TX5 15).2.2.1 ∈ gw_tbl := gw_ix 291 (by decide +kernel)
theorem skfX5_73 : Cond.fieldLink RX5 73 (TX5 16).1 (TX5 16).2.1 (TX5 16).2.2.1 ∈ gw_tbl := gw_ix 293 (by decide +kernel)
theorem skfX5_76 : Cond.fieldLink RX5 76 (TX5 17).1 (TX5 17).2.1 (TX5 17).2.2.1 ∈ gw_tbl := gw_ix 295 (by decide +kernel)
def tbsX2_emit : List (Nat × Instr × Nat) := [(0, .aload_n 0, 1), (1, .getfield 23, 3), (4, .aload_n 0, 1), (5, .getfield 11, 3), (8, .arraylength, 1), (9, .if_icmp .ge 23, 3), (12, .aload_n 0, 1), (13, .getfield 11, 3), (16, .aload_n 0, 1), (17, .getfield 23, 3), (20, .iload_n 1, 1), (21, .iastore, 1), (22, .aload_n 0, 1), (23, .dup, 1), (24, .getfield 23, 3), (27, .iconst 1, 1), (28, .iadd, 1), (29, .putfield 23, 3), (32, .return_, 1)]
set_option maxRecDepth 20000 in
theorem dasX2_emit : ∀ x ∈ tbsX2_emit, decode cX2_emit x.1 = .ok x.2 := by decide +kernel
theorem dksX2_emit {i pc n : Nat} {ins : Instr} (h : tbsX2_emit[i]? = some (pc, ins, n)) : decode cX2_emit pc = .ok (ins, n) := dasX2_emit (pc, ins, n) (List.mem_of_getElem? h)
def fsX2_emit (S0 : qv_St) (q : Nat) (x1 : Int32) : Option qv_St :=
  if 400 ≤ (S0.1 q 3) then
    some S0
  else
    qv_ck (S0.1 q 3) 400 <| qv_b (qv_si S0 (q + 1) (Int32.toNatClampNeg (S0.1 q 3)) x1) fun S_1 =>
    qv_b (qv_si S_1 q 3 ((S_1.1 q 3) + 1)) fun S_2 =>
    some S_2
set_option maxRecDepth 20000 in
set_option maxHeartbeats 4000000 in
theorem wsX2_emit (G : qv_GT) (S0 : qv_St) (q : Nat) (x1 : Int32) (hq : isLs q) : ∀ r, fsX2_emit S0 q x1 = some r → Cn G Ls yX2_emit cX2_emit 2 none 1 [.ref (G.2.2.1 q), .int x1] S0 (qe_u r) := by
  refine cn_of (own := RX2) (emb := qe_u) (lv := [(0, .ref (G.2.2.1 q)), (1, .int x1)]) rfl rfl (Nat.le_of_ble_eq_true rfl) rfl (fun X => ?_)
  unfold fsX2_emit
  refine qr_aload_n (n := 1) 0 (dksX2_emit (i := 0) rfl) rfl rfl ?_
  refine qr_geti (n := 4) q 3 (dksX2_emit (i := 1) rfl) rfl hq.1 rfl gnX2 (Nat.le_of_ble_eq_true rfl) skfX2_23 rfl ?_
  refine qr_aload_n (n := 5) 0 (dksX2_emit (i := 2) rfl) rfl rfl ?_
  refine qr_geta (n := 8) q 0 (q + 1) (dksX2_emit (i := 3) rfl) rfl hq.1 rfl gnX2 (Nat.le_of_ble_eq_true rfl) skfX2_11 rfl ?_
  refine qr_alen (n := 9) (q + 1) 400 400 (dksX2_emit (i := 4) rfl) rfl hq.2.1 (by decide) ?_
  refine qr_icmp_ge (t := 32) (n := 12) (dksX2_emit (i := 5) rfl) (by decide) rfl ?_ ?_
  · exact qr_vret (dksX2_emit (i := 18) rfl) rfl rfl
  · refine qr_aload_n (n := 13) 0 (dksX2_emit (i := 6) rfl) rfl rfl ?_
    refine qr_geta (n := 16) q 0 (q + 1) (dksX2_emit (i := 7) rfl) rfl hq.1 rfl gnX2 (Nat.le_of_ble_eq_true rfl) skfX2_11 rfl ?_
    refine qr_aload_n (n := 17) 0 (dksX2_emit (i := 8) rfl) rfl rfl ?_
    refine qr_geti (n := 20) q 3 (dksX2_emit (i := 9) rfl) rfl hq.1 rfl gnX2 (Nat.le_of_ble_eq_true rfl) skfX2_23 rfl ?_
    refine qr_iload_n (n := 21) 1 (dksX2_emit (i := 10) rfl) rfl rfl ?_
    refine qr_iast (n := 22) (q + 1) 400 (dksX2_emit (i := 11) rfl) rfl hq.2.1 (fun S_1 => ?_)
    refine qr_aload_n (n := 23) 0 (dksX2_emit (i := 12) rfl) rfl rfl ?_
    refine qr_dup (n := 24) (dksX2_emit (i := 13) rfl) rfl rfl ?_
    refine qr_geti (n := 27) q 3 (dksX2_emit (i := 14) rfl) rfl hq.1 rfl gnX2 (Nat.le_of_ble_eq_true rfl) skfX2_23 rfl ?_
    refine qr_iconst (n := 28) 1 (dksX2_emit (i := 15) rfl) rfl (by decide) ?_
    refine qr_iadd (n := 29) (dksX2_emit (i := 16) rfl) rfl ?_
    refine qr_puti (n := 32) q 3 (dksX2_emit (i := 17) rfl) rfl hq.1 rfl gnX2 (Nat.le_of_ble_eq_true rfl) skfX2_23 rfl tyX2_ok nmX2 rfl rfl (fun S_2 => ?_)
    exact qr_vret (dksX2_emit (i := 18) rfl) rfl rfl
def tbsX2_becomeOnly : List (Nat × Instr × Nat) := [(0, .aload_n 0, 1), (1, .iconst 0, 1), (2, .putfield 23, 3), (5, .aload_n 0, 1), (6, .iload_n 1, 1), (7, .invokevirtual 27, 3), (10, .aload_n 0, 1), (11, .bipush (-59), 2), (13, .invokevirtual 27, 3), (16, .return_, 1)]
set_option maxRecDepth 20000 in
theorem dasX2_becomeOnly : ∀ x ∈ tbsX2_becomeOnly, decode cX2_becomeOnly x.1 = .ok x.2 := by decide +kernel
theorem dksX2_becomeOnly {i pc n : Nat} {ins : Instr} (h : tbsX2_becomeOnly[i]? = some (pc, ins, n)) : decode cX2_becomeOnly pc = .ok (ins, n) := dasX2_becomeOnly (pc, ins, n) (List.mem_of_getElem? h)
def fsX2_becomeOnly (S0 : qv_St) (q : Nat) (x1 : Int32) : Option qv_St :=
  qv_b (qv_si S0 q 3 0) fun S_1 =>
  (fsX2_emit S_1 q x1).bind fun S_2 =>
  (fsX2_emit S_2 q (-59)).bind fun S_3 =>
  some S_3
set_option maxRecDepth 20000 in
set_option maxHeartbeats 4000000 in
theorem wsX2_becomeOnly (G : qv_GT) (S0 : qv_St) (q : Nat) (x1 : Int32) (hq : isLs q) : ∀ r, fsX2_becomeOnly S0 q x1 = some r → Cn G Ls yX2_becomeOnly cX2_becomeOnly 2 none 2 [.ref (G.2.2.1 q), .int x1] S0 (qe_u r) := by
  refine cn_of (own := RX2) (emb := qe_u) (lv := [(0, .ref (G.2.2.1 q)), (1, .int x1)]) rfl rfl (Nat.le_of_ble_eq_true rfl) rfl (fun X => ?_)
  unfold fsX2_becomeOnly
  refine qr_aload_n (n := 1) 0 (dksX2_becomeOnly (i := 0) rfl) rfl rfl ?_
  refine qr_iconst (n := 2) 0 (dksX2_becomeOnly (i := 1) rfl) rfl (by decide) ?_
  refine qr_puti (n := 5) q 3 (dksX2_becomeOnly (i := 2) rfl) rfl hq.1 rfl gnX2 (Nat.le_of_ble_eq_true rfl) skfX2_23 rfl tyX2_ok nmX2 rfl rfl (fun S_1 => ?_)
  refine qr_aload_n (n := 6) 0 (dksX2_becomeOnly (i := 3) rfl) rfl rfl ?_
  refine qr_iload_n (n := 7) 1 (dksX2_becomeOnly (i := 4) rfl) rfl rfl ?_
  refine qr_cvu (n := 10) q [.int x1] (dksX2_becomeOnly (i := 5) rfl) rfl skvX2_27 rfl rfl (Nat.le_of_ble_eq_true rfl) rfl rfl hq.1 rfl (wsX2_emit G S_1 q x1 hq) (fun S_2 => ?_)
  refine qr_aload_n (n := 11) 0 (dksX2_becomeOnly (i := 6) rfl) rfl rfl ?_
  refine qr_bipush (n := 13) (-59) (dksX2_becomeOnly (i := 7) rfl) rfl (by decide) ?_
  refine qr_cvu (n := 16) q [.int (-59)] (dksX2_becomeOnly (i := 8) rfl) rfl skvX2_27 rfl rfl (Nat.le_of_ble_eq_true rfl) rfl rfl hq.1 rfl (wsX2_emit G S_2 q (-59) hq) (fun S_3 => ?_)
  exact qr_vret (dksX2_becomeOnly (i := 9) rfl) rfl rfl
def tbsX5_clear : List (Nat × Instr × Nat) := [(0, .aload_n 0, 1), (1, .iconst 0, 1), (2, .putfield 56, 3), (5, .aload_n 0, 1), (6, .iconst 0, 1), (7, .putfield 60, 3), (10, .aload_n 0, 1), (11, .iconst 0, 1), (12, .putfield 63, 3), (15, .aload_n 0, 1), (16, .getfield 43, 3), (19, .bipush (-13), 2), (21, .invokevirtual 66, 3), (24, .aload_n 0, 1), (25, .getfield 47, 3), (28, .bipush (-17), 2), (30, .invokevirtual 66, 3), (33, .aload_n 0, 1), (34, .getfield 50, 3), (37, .iconst 0, 1), (38, .invokevirtual 66, 3), (41, .aload_n 0, 1), (42, .iconst 5, 1), (43, .putfield 70, 3), (46, .aload_n 0, 1), (47, .bipush 50, 2), (49, .putfield 73, 3), (52, .aload_n 0, 1), (53, .iconst 0, 1), (54, .putfield 76, 3), (57, .return_, 1)]
set_option maxRecDepth 20000 in
theorem dasX5_clear : ∀ x ∈ tbsX5_clear, decode cX5_clear x.1 = .ok x.2 := by decide +kernel
theorem dksX5_clear {i pc n : Nat} {ins : Instr} (h : tbsX5_clear[i]? = some (pc, ins, n)) : decode cX5_clear pc = .ok (ins, n) := dasX5_clear (pc, ins, n) (List.mem_of_getElem? h)
def fsX5_clear (S0 : qv_St) : Option qv_St :=
  qv_b (qv_si S0 0 0 0) fun S_1 =>
  qv_b (qv_si S_1 0 1 0) fun S_2 =>
  qv_b (qv_si S_2 0 2 0) fun S_3 =>
  (fsX2_becomeOnly S_3 10 (-13)).bind fun S_4 =>
  (fsX2_becomeOnly S_4 14 (-17)).bind fun S_5 =>
  (fsX2_becomeOnly S_5 18 0).bind fun S_6 =>
  qv_b (qv_si S_6 0 15 5) fun S_7 =>
  qv_b (qv_si S_7 0 16 50) fun S_8 =>
  qv_b (qv_si S_8 0 17 0) fun S_9 =>
  some S_9
set_option maxRecDepth 20000 in
set_option maxHeartbeats 4000000 in
theorem wsX5_clear (G : qv_GT) (S0 : qv_St) : ∀ r, fsX5_clear S0 = some r → Cn G Ls yX5_clear cX5_clear 1 none 3 [.ref (G.2.2.1 0)] S0 (qe_u r) := by
  refine cn_of (own := RX5) (emb := qe_u) (lv := [(0, .ref (G.2.2.1 0))]) rfl rfl (Nat.le_of_ble_eq_true rfl) rfl (fun X => ?_)
  unfold fsX5_clear
  refine qr_aload_n (n := 1) 0 (dksX5_clear (i := 0) rfl) rfl rfl ?_
  refine qr_iconst (n := 2) 0 (dksX5_clear (i := 1) rfl) rfl (by decide) ?_
  refine qr_puti (n := 5) 0 0 (dksX5_clear (i := 2) rfl) rfl lsO_0 rfl gnX5 (Nat.le_of_ble_eq_true rfl) skfX5_56 rfl tyX5_ok nmX5 rfl rfl (fun S_1 => ?_)
  refine qr_aload_n (n := 6) 0 (dksX5_clear (i := 3) rfl) rfl rfl ?_
  refine qr_iconst (n := 7) 0 (dksX5_clear (i := 4) rfl) rfl (by decide) ?_
  refine qr_puti (n := 10) 0 1 (dksX5_clear (i := 5) rfl) rfl lsO_0 rfl gnX5 (Nat.le_of_ble_eq_true rfl) skfX5_60 rfl tyX5_ok nmX5 rfl rfl (fun S_2 => ?_)
  refine qr_aload_n (n := 11) 0 (dksX5_clear (i := 6) rfl) rfl rfl ?_
  refine qr_iconst (n := 12) 0 (dksX5_clear (i := 7) rfl) rfl (by decide) ?_
  refine qr_puti (n := 15) 0 2 (dksX5_clear (i := 8) rfl) rfl lsO_0 rfl gnX5 (Nat.le_of_ble_eq_true rfl) skfX5_63 rfl tyX5_ok nmX5 rfl rfl (fun S_3 => ?_)
  refine qr_aload_n (n := 16) 0 (dksX5_clear (i := 9) rfl) rfl rfl ?_
  refine qr_geta (n := 19) 0 12 10 (dksX5_clear (i := 10) rfl) rfl lsO_0 rfl gnX5 (Nat.le_of_ble_eq_true rfl) skfX5_43 rfl ?_
  refine qr_bipush (n := 21) (-13) (dksX5_clear (i := 11) rfl) rfl (by decide) ?_
  refine qr_cvu (n := 24) 10 [.int (-13)] (dksX5_clear (i := 12) rfl) rfl skvX5_66 rfl rfl (Nat.le_of_ble_eq_true rfl) rfl rfl lsO_10 rfl (wsX2_becomeOnly G S_3 10 (-13) isLs_10) (fun S_4 => ?_)
  refine qr_aload_n (n := 25) 0 (dksX5_clear (i := 13) rfl) rfl rfl ?_
  refine qr_geta (n := 28) 0 13 14 (dksX5_clear (i := 14) rfl) rfl lsO_0 rfl gnX5 (Nat.le_of_ble_eq_true rfl) skfX5_47 rfl ?_
  refine qr_bipush (n := 30) (-17) (dksX5_clear (i := 15) rfl) rfl (by decide) ?_
  refine qr_cvu (n := 33) 14 [.int (-17)] (dksX5_clear (i := 16) rfl) rfl skvX5_66 rfl rfl (Nat.le_of_ble_eq_true rfl) rfl rfl lsO_14 rfl (wsX2_becomeOnly G S_4 14 (-17) isLs_14) (fun S_5 => ?_)
  refine qr_aload_n (n := 34) 0 (dksX5_clear (i := 17) rfl) rfl rfl ?_
  refine qr_geta (n := 37) 0 14 18 (dksX5_clear (i := 18) rfl) rfl lsO_0 rfl gnX5 (Nat.le_of_ble_eq_true rfl) skfX5_50 rfl ?_
  refine qr_iconst (n := 38) 0 (dksX5_clear (i := 19) rfl) rfl (by decide) ?_
  refine qr_cvu (n := 41) 18 [.int 0] (dksX5_clear (i := 20) rfl) rfl skvX5_66 rfl rfl (Nat.le_of_ble_eq_true rfl) rfl rfl lsO_18 rfl (wsX2_becomeOnly G S_5 18 0 isLs_18) (fun S_6 => ?_)
  refine qr_aload_n (n := 42) 0 (dksX5_clear (i := 21) rfl) rfl rfl ?_
  refine qr_iconst (n := 43) 5 (dksX5_clear (i := 22) rfl) rfl (by decide) ?_
  refine qr_puti (n := 46) 0 15 (dksX5_clear (i := 23) rfl) rfl lsO_0 rfl gnX5 (Nat.le_of_ble_eq_true rfl) skfX5_70 rfl tyX5_ok nmX5 rfl rfl (fun S_7 => ?_)
  refine qr_aload_n (n := 47) 0 (dksX5_clear (i := 24) rfl) rfl rfl ?_
  refine qr_bipush (n := 49) 50 (dksX5_clear (i := 25) rfl) rfl (by decide) ?_
  refine qr_puti (n := 52) 0 16 (dksX5_clear (i := 26) rfl) rfl lsO_0 rfl gnX5 (Nat.le_of_ble_eq_true rfl) skfX5_73 rfl tyX5_ok nmX5 rfl rfl (fun S_8 => ?_)
  refine qr_aload_n (n := 53) 0 (dksX5_clear (i := 27) rfl) rfl rfl ?_
  refine qr_iconst (n := 54) 0 (dksX5_clear (i := 28) rfl) rfl (by decide) ?_
  refine qr_puti (n := 57) 0 17 (dksX5_clear (i := 29) rfl) rfl lsO_0 rfl gnX5 (Nat.le_of_ble_eq_true rfl) skfX5_76 rfl tyX5_ok nmX5 rfl rfl (fun S_9 => ?_)
  exact qr_vret (dksX5_clear (i := 30) rfl) rfl rfl
def tbX5_init : List (Nat × Instr × Nat) := [(0, .aload_n 0, 1), (1, .invokespecial 3, 3), (4, .aload_n 0, 1), (5, .bipush 8, 2), (7, .newarray .boolean, 2), (9, .putfield 9, 3), (12, .aload_n 0, 1), (13, .bipush 8, 2), (15, .newarray .int, 2), (17, .putfield 15, 3), (20, .aload_n 0, 1), (21, .bipush 8, 2), (23, .newarray .int, 2), (25, .putfield 19, 3), (28, .aload_n 0, 1), (29, .bipush 8, 2), (31, .newarray .int, 2), (33, .putfield 22, 3), (36, .aload_n 0, 1), (37, .bipush 8, 2), (39, .newarray .int, 2), (41, .putfield 25, 3), (44, .aload_n 0, 1), (45, .bipush 8, 2), (47, .newarray .int, 2), (49, .putfield 28, 3), (52, .aload_n 0, 1), (53, .iconst 4, 1), (54, .newarray .int, 2), (56, .putfield 31, 3), (59, .aload_n 0, 1), (60, .bipush 6, 2), (62, .newarray .int, 2), (64, .putfield 34, 3), (67, .aload_n 0, 1), (68, .bipush 6, 2), (70, .newarray .int, 2), (72, .putfield 37, 3), (75, .aload_n 0, 1), (76, .new 40, 3), (79, .dup, 1), (80, .invokespecial 42, 3), (83, .putfield 43, 3), (86, .aload_n 0, 1), (87, .new 40, 3), (90, .dup, 1), (91, .invokespecial 42, 3), (94, .putfield 47, 3), (97, .aload_n 0, 1), (98, .new 40, 3), (101, .dup, 1), (102, .invokespecial 42, 3), (105, .putfield 50, 3), (108, .aload_n 0, 1), (109, .invokevirtual 53, 3), (112, .return_, 1)]
set_option maxRecDepth 20000 in
theorem daX5_init : ∀ x ∈ tbX5_init, decode cX5_init x.1 = .ok x.2 := by decide +kernel
theorem dkX5_init {i pc n : Nat} {ins : Instr} (h : tbX5_init[i]? = some (pc, ins, n)) : decode cX5_init pc = .ok (ins, n) := daX5_init (pc, ins, n) (List.mem_of_getElem? h)
theorem kcl_law : Cond.classLink RX5 40 "QuietTake$Law" ∈ gw_tbl := gw_ix 214 (by decide +kernel)
theorem kin_law : Cond.instantiable RX2 5 ∈ gw_tbl := gw_ix 215 (by decide +kernel)
theorem kini_law : Cond.initialized RX2 ∈ gw_tbl := gw_ix 101 (by decide +kernel)
theorem kcv_law : (Cond.instanceMethod yX2_init ∈ gw_tbl ∧ Cond.initialized yX2_init.cls ∈ gw_tbl ∧ Cond.code yX2_init cX2_init 1 none ∈ gw_tbl) ∧ (yX2_init.cls ≠ "java/lang/invoke/MethodHandle" ∧ yX2_init.cls ≠ "java/lang/invoke/VarHandle" ∧ (parseMethodDescriptor yX2_init.desc).map (fun d => d.parameters.length) = some 0) := ⟨⟨gw_ix 217 (by decide +kernel), gw_ix 101 (by decide +kernel), gw_ix 218 (by decide +kernel)⟩, by decide +kernel⟩
theorem dfX2 : ∀ j, j < 5 → defaultValue (tyX2 j) = vp_V [.null, .null, .null, .int 0, .int 0] j := by
  intro j hj
  rcases (show j = 0 ∨ j = 1 ∨ j = 2 ∨ j = 3 ∨ j = 4 by omega) with rfl | rfl | rfl | rfl | rfl <;> rfl
theorem tkvX5_53 : qv_cv RX5 53 yX5_clear cX5_clear 1 none 0 := ⟨⟨gw_ix 237 (by decide +kernel), gw_ix 239 (by decide +kernel), gw_ix 0 (by decide +kernel), gw_ix 100 (by decide +kernel), gw_ix 240 (by decide +kernel)⟩, by decide +kernel⟩
theorem tkfX5_15 : Cond.fieldLink RX5 15 (TX5 4).1 (TX5 4).2.1 (TX5 4).2.2.1 ∈ gw_tbl := gw_ix 262 (by decide +kernel)
theorem tkfX5_19 : Cond.fieldLink RX5 19 (TX5 5).1 (TX5 5).2.1 (TX5 5).2.2.1 ∈ gw_tbl := gw_ix 265 (by decide +kernel)
theorem tkfX5_22 : Cond.fieldLink RX5 22 (TX5 6).1 (TX5 6).2.1 (TX5 6).2.2.1 ∈ gw_tbl := gw_ix 268 (by decide +kernel)
theorem tkfX5_25 : Cond.fieldLink RX5 25 (TX5 7).1 (TX5 7).2.1 (TX5 7).2.2.1 ∈ gw_tbl := gw_ix 271 (by decide +kernel)
theorem tkfX5_28 : Cond.fieldLink RX5 28 (TX5 8).1 (TX5 8).2.1 (TX5 8).2.2.1 ∈ gw_tbl := gw_ix 274 (by decide +kernel)
theorem tkfX5_31 : Cond.fieldLink RX5 31 (TX5 9).1 (TX5 9).2.1 (TX5 9).2.2.1 ∈ gw_tbl := gw_ix 276 (by decide +kernel)
theorem tkfX5_34 : Cond.fieldLink RX5 34 (TX5 10).1 (TX5 10).2.1 (TX5 10).2.2.1 ∈ gw_tbl := gw_ix 278 (by decide +kernel)
theorem tkfX5_37 : Cond.fieldLink RX5 37 (TX5 11).1 (TX5 11).2.1 (TX5 11).2.2.1 ∈ gw_tbl := gw_ix 282 (by decide +kernel)
theorem tkfX5_43 : Cond.fieldLink RX5 43 (TX5 12).1 (TX5 12).2.1 (TX5 12).2.2.1 ∈ gw_tbl := gw_ix 285 (by decide +kernel)
theorem tkfX5_47 : Cond.fieldLink RX5 47 (TX5 13).1 (TX5 13).2.1 (TX5 13).2.2.1 ∈ gw_tbl := gw_ix 287 (by decide +kernel)
theorem tkfX5_50 : Cond.fieldLink RX5 50 (TX5 14).1 (TX5 14).2.1 (TX5 14).2.2.1 ∈ gw_tbl := gw_ix 289 (by decide +kernel)
theorem tkfX5_9 : Cond.fieldLink RX5 9 (TX5 3).1 (TX5 3).2.1 (TX5 3).2.2.1 ∈ gw_tbl := gw_ix 259 (by decide +kernel)
theorem tkoX5_3 : Cond.methodLink RX5 3 Lib.objectInit ∈ gw_tbl := gw_ix 213 (by decide +kernel)
def qz : qv_St := (fun _ _ => 0, fun _ _ => 0)
theorem scr_some : (fsX5_clear qz).isSome = true := by decide +kernel
def scr_S : qv_St := (fsX5_clear qz).get scr_some
theorem scr_eq : fsX5_clear qz = some scr_S := (Option.some_get scr_some).symm
def bkX5_init (cy ax : Nat → Nat) (B : Nat) : List va_E := qc_es (qc_ad B ax) cy Ls scr_S
set_option maxRecDepth 20000 in
set_option maxHeartbeats 4000000 in
theorem kcX5_init (l : Launch) (D : va_G) (cy ax : Nat → Nat) (B : Nat) : Kc l D cy ax yX5_init cX5_init 1 4 21 1471 [.ref B] B [.inr (5, [.int 0, .int 0, .int 0, .null, .null, .null, .null, .null, .null, .null, .null, .null, .null, .null, .null, .int 0, .int 0, .int 0])] (bkX5_init cy ax B) := by
  refine kc_of (own := RX5) (lv := [(0, .ref B)]) rfl rfl rfl (Nat.le_of_ble_eq_true rfl) rfl rfl (fun X hX => ?_)
  refine qc_aload_n (n := 1) 0 (dkX5_init (i := 0) rfl) rfl rfl ?_
  refine qc_obj (n := 4) (dkX5_init (i := 1) rfl) rfl tkoX5_3 kob1 kob2 rfl (Nat.le_of_ble_eq_true rfl) ?_
  refine qc_aload_n (n := 5) 0 (dkX5_init (i := 2) rfl) rfl rfl ?_
  refine qc_bipush (n := 7) 8 (dkX5_init (i := 3) rfl) rfl (by decide) ?_
  refine qc_arr 2 (n := 9) (r := 1) (8, .inl (fun _ => 0)) (dkX5_init (i := 4) rfl) rfl rfl kac2 rfl (fun _ h => h) (fun _ => rfl) (by decide) (by decide) (by decide) rfl rfl rfl ?_
  refine qc_putF (n := 12) (v := .ref (B + 1)) (es2 := [.inr (5, [.int 0, .int 0, .int 0, .ref (B + 1), .null, .null, .null, .null, .null, .null, .null, .null, .null, .null, .null, .int 0, .int 0, .int 0]), .inl (cy 2, 8, .inl (fun _ => 0))]) 0 3 (dkX5_init (i := 5) rfl) rfl rfl rfl gnX5 (Nat.le_of_ble_eq_true rfl) tkfX5_9 (Nat.le_of_ble_eq_true rfl) tyX5_ok nmX5 rfl rfl rfl rfl rfl ?_
  refine qc_aload_n (n := 13) 0 (dkX5_init (i := 6) rfl) rfl rfl ?_
  refine qc_bipush (n := 15) 8 (dkX5_init (i := 7) rfl) rfl (by decide) ?_
  refine qc_arr 0 (n := 17) (r := 2) (8, .inl (fun _ => 0)) (dkX5_init (i := 8) rfl) rfl rfl kac0 rfl (fun _ h => h) (fun _ => rfl) (by decide) (by decide) (by decide) rfl rfl rfl ?_
  refine qc_putF (n := 20) (v := .ref (B + 2)) (es2 := [.inr (5, [.int 0, .int 0, .int 0, .ref (B + 1), .ref (B + 2), .null, .null, .null, .null, .null, .null, .null, .null, .null, .null, .int 0, .int 0, .int 0]), .inl (cy 2, 8, .inl (fun _ => 0)), .inl (cy 0, 8, .inl (fun _ => 0))]) 0 4 (dkX5_init (i := 9) rfl) rfl rfl rfl gnX5 (Nat.le_of_ble_eq_true rfl) tkfX5_15 (Nat.le_of_ble_eq_true rfl) tyX5_ok nmX5 rfl rfl rfl rfl rfl ?_
  refine qc_aload_n (n := 21) 0 (dkX5_init (i := 10) rfl) rfl rfl ?_
  refine qc_bipush (n := 23) 8 (dkX5_init (i := 11) rfl) rfl (by decide) ?_
  refine qc_arr 0 (n := 25) (r := 3) (8, .inl (fun _ => 0)) (dkX5_init (i := 12) rfl) rfl rfl kac0 rfl (fun _ h => h) (fun _ => rfl) (by decide) (by decide) (by decide) rfl rfl rfl ?_
  refine qc_putF (n := 28) (v := .ref (B + 3)) (es2 := [.inr (5, [.int 0, .int 0, .int 0, .ref (B + 1), .ref (B + 2), .ref (B + 3), .null, .null, .null, .null, .null, .null, .null, .null, .null, .int 0, .int 0, .int 0]), .inl (cy 2, 8, .inl (fun _ => 0)), .inl (cy 0, 8, .inl (fun _ => 0)), .inl (cy 0, 8, .inl (fun _ => 0))]) 0 5 (dkX5_init (i := 13) rfl) rfl rfl rfl gnX5 (Nat.le_of_ble_eq_true rfl) tkfX5_19 (Nat.le_of_ble_eq_true rfl) tyX5_ok nmX5 rfl rfl rfl rfl rfl ?_
  refine qc_aload_n (n := 29) 0 (dkX5_init (i := 14) rfl) rfl rfl ?_
  refine qc_bipush (n := 31) 8 (dkX5_init (i := 15) rfl) rfl (by decide) ?_
  refine qc_arr 0 (n := 33) (r := 4) (8, .inl (fun _ => 0)) (dkX5_init (i := 16) rfl) rfl rfl kac0 rfl (fun _ h => h) (fun _ => rfl) (by decide) (by decide) (by decide) rfl rfl rfl ?_
  refine qc_putF (n := 36) (v := .ref (B + 4)) (es2 := [.inr (5, [.int 0, .int 0, .int 0, .ref (B + 1), .ref (B + 2), .ref (B + 3), .ref (B + 4), .null, .null, .null, .null, .null, .null, .null, .null, .int 0, .int 0, .int 0]), .inl (cy 2, 8, .inl (fun _ => 0)), .inl (cy 0, 8, .inl (fun _ => 0)), .inl (cy 0, 8, .inl (fun _ => 0)), .inl (cy 0, 8, .inl (fun _ => 0))]) 0 6 (dkX5_init (i := 17) rfl) rfl rfl rfl gnX5 (Nat.le_of_ble_eq_true rfl) tkfX5_22 (Nat.le_of_ble_eq_true rfl) tyX5_ok nmX5 rfl rfl rfl rfl rfl ?_
  refine qc_aload_n (n := 37) 0 (dkX5_init (i := 18) rfl) rfl rfl ?_
  refine qc_bipush (n := 39) 8 (dkX5_init (i := 19) rfl) rfl (by decide) ?_
  refine qc_arr 0 (n := 41) (r := 5) (8, .inl (fun _ => 0)) (dkX5_init (i := 20) rfl) rfl rfl kac0 rfl (fun _ h => h) (fun _ => rfl) (by decide) (by decide) (by decide) rfl rfl rfl ?_
  refine qc_putF (n := 44) (v := .ref (B + 5)) (es2 := [.inr (5, [.int 0, .int 0, .int 0, .ref (B + 1), .ref (B + 2), .ref (B + 3), .ref (B + 4), .ref (B + 5), .null, .null, .null, .null, .null, .null, .null, .int 0, .int 0, .int 0]), .inl (cy 2, 8, .inl (fun _ => 0)), .inl (cy 0, 8, .inl (fun _ => 0)), .inl (cy 0, 8, .inl (fun _ => 0)), .inl (cy 0, 8, .inl (fun _ => 0)), .inl (cy 0, 8, .inl (fun _ => 0))]) 0 7 (dkX5_init (i := 21) rfl) rfl rfl rfl gnX5 (Nat.le_of_ble_eq_true rfl) tkfX5_25 (Nat.le_of_ble_eq_true rfl) tyX5_ok nmX5 rfl rfl rfl rfl rfl ?_
  refine qc_aload_n (n := 45) 0 (dkX5_init (i := 22) rfl) rfl rfl ?_
  refine qc_bipush (n := 47) 8 (dkX5_init (i := 23) rfl) rfl (by decide) ?_
  refine qc_arr 0 (n := 49) (r := 6) (8, .inl (fun _ => 0)) (dkX5_init (i := 24) rfl) rfl rfl kac0 rfl (fun _ h => h) (fun _ => rfl) (by decide) (by decide) (by decide) rfl rfl rfl ?_
  refine qc_putF (n := 52) (v := .ref (B + 6)) (es2 := [.inr (5, [.int 0, .int 0, .int 0, .ref (B + 1), .ref (B + 2), .ref (B + 3), .ref (B + 4), .ref (B + 5), .ref (B + 6), .null, .null, .null, .null, .null, .null, .int 0, .int 0, .int 0]), .inl (cy 2, 8, .inl (fun _ => 0)), .inl (cy 0, 8, .inl (fun _ => 0)), .inl (cy 0, 8, .inl (fun _ => 0)), .inl (cy 0, 8, .inl (fun _ => 0)), .inl (cy 0, 8, .inl (fun _ => 0)), .inl (cy 0, 8, .inl (fun _ => 0))]) 0 8 (dkX5_init (i := 25) rfl) rfl rfl rfl gnX5 (Nat.le_of_ble_eq_true rfl) tkfX5_28 (Nat.le_of_ble_eq_true rfl) tyX5_ok nmX5 rfl rfl rfl rfl rfl ?_
  refine qc_aload_n (n := 53) 0 (dkX5_init (i := 26) rfl) rfl rfl ?_
  refine qc_iconst (n := 54) 4 (dkX5_init (i := 27) rfl) rfl (by decide) ?_
  refine qc_arr 0 (n := 56) (r := 7) (4, .inl (fun _ => 0)) (dkX5_init (i := 28) rfl) rfl rfl kac0 rfl (fun _ h => h) (fun _ => rfl) (by decide) (by decide) (by decide) rfl rfl rfl ?_
  refine qc_putF (n := 59) (v := .ref (B + 7)) (es2 := [.inr (5, [.int 0, .int 0, .int 0, .ref (B + 1), .ref (B + 2), .ref (B + 3), .ref (B + 4), .ref (B + 5), .ref (B + 6), .ref (B + 7), .null, .null, .null, .null, .null, .int 0, .int 0, .int 0]), .inl (cy 2, 8, .inl (fun _ => 0)), .inl (cy 0, 8, .inl (fun _ => 0)), .inl (cy 0, 8, .inl (fun _ => 0)), .inl (cy 0, 8, .inl (fun _ => 0)), .inl (cy 0, 8, .inl (fun _ => 0)), .inl (cy 0, 8, .inl (fun _ => 0)), .inl (cy 0, 4, .inl (fun _ => 0))]) 0 9 (dkX5_init (i := 29) rfl) rfl rfl rfl gnX5 (Nat.le_of_ble_eq_true rfl) tkfX5_31 (Nat.le_of_ble_eq_true rfl) tyX5_ok nmX5 rfl rfl rfl rfl rfl ?_
  refine qc_aload_n (n := 60) 0 (dkX5_init (i := 30) rfl) rfl rfl ?_
  refine qc_bipush (n := 62) 6 (dkX5_init (i := 31) rfl) rfl (by decide) ?_
  refine qc_arr 0 (n := 64) (r := 8) (6, .inl (fun _ => 0)) (dkX5_init (i := 32) rfl) rfl rfl kac0 rfl (fun _ h => h) (fun _ => rfl) (by decide) (by decide) (by decide) rfl rfl rfl ?_
  refine qc_putF (n := 67) (v := .ref (B + 8)) (es2 := [.inr (5, [.int 0, .int 0, .int 0, .ref (B + 1), .ref (B + 2), .ref (B + 3), .ref (B + 4), .ref (B + 5), .ref (B + 6), .ref (B + 7), .ref (B + 8), .null, .null, .null, .null, .int 0, .int 0, .int 0]), .inl (cy 2, 8, .inl (fun _ => 0)), .inl (cy 0, 8, .inl (fun _ => 0)), .inl (cy 0, 8, .inl (fun _ => 0)), .inl (cy 0, 8, .inl (fun _ => 0)), .inl (cy 0, 8, .inl (fun _ => 0)), .inl (cy 0, 8, .inl (fun _ => 0)), .inl (cy 0, 4, .inl (fun _ => 0)), .inl (cy 0, 6, .inl (fun _ => 0))]) 0 10 (dkX5_init (i := 33) rfl) rfl rfl rfl gnX5 (Nat.le_of_ble_eq_true rfl) tkfX5_34 (Nat.le_of_ble_eq_true rfl) tyX5_ok nmX5 rfl rfl rfl rfl rfl ?_
  refine qc_aload_n (n := 68) 0 (dkX5_init (i := 34) rfl) rfl rfl ?_
  refine qc_bipush (n := 70) 6 (dkX5_init (i := 35) rfl) rfl (by decide) ?_
  refine qc_arr 0 (n := 72) (r := 9) (6, .inl (fun _ => 0)) (dkX5_init (i := 36) rfl) rfl rfl kac0 rfl (fun _ h => h) (fun _ => rfl) (by decide) (by decide) (by decide) rfl rfl rfl ?_
  refine qc_putF (n := 75) (v := .ref (B + 9)) (es2 := [.inr (5, [.int 0, .int 0, .int 0, .ref (B + 1), .ref (B + 2), .ref (B + 3), .ref (B + 4), .ref (B + 5), .ref (B + 6), .ref (B + 7), .ref (B + 8), .ref (B + 9), .null, .null, .null, .int 0, .int 0, .int 0]), .inl (cy 2, 8, .inl (fun _ => 0)), .inl (cy 0, 8, .inl (fun _ => 0)), .inl (cy 0, 8, .inl (fun _ => 0)), .inl (cy 0, 8, .inl (fun _ => 0)), .inl (cy 0, 8, .inl (fun _ => 0)), .inl (cy 0, 8, .inl (fun _ => 0)), .inl (cy 0, 4, .inl (fun _ => 0)), .inl (cy 0, 6, .inl (fun _ => 0)), .inl (cy 0, 6, .inl (fun _ => 0))]) 0 11 (dkX5_init (i := 37) rfl) rfl rfl rfl gnX5 (Nat.le_of_ble_eq_true rfl) tkfX5_37 (Nat.le_of_ble_eq_true rfl) tyX5_ok nmX5 rfl rfl rfl rfl rfl ?_
  refine qc_aload_n (n := 76) 0 (dkX5_init (i := 38) rfl) rfl rfl ?_
  refine qc_new (n := 79) (r := 10) tyX2 [.null, .null, .null, .int 0, .int 0] (dkX5_init (i := 39) rfl) rfl (ci := 2) rfl gnX2 tyX2_ok dfX2 kcl_law kin_law kini_law rfl rfl rfl ?_
  refine qc_dup (n := 80) (dkX5_init (i := 40) rfl) rfl rfl ?_
  refine qc_callN (n := 83) (w := [.inr (5, [.int 0, .int 0, .int 0, .ref (B + 1), .ref (B + 2), .ref (B + 3), .ref (B + 4), .ref (B + 5), .ref (B + 6), .ref (B + 7), .ref (B + 8), .ref (B + 9), .null, .null, .null, .int 0, .int 0, .int 0]), .inl (cy 2, 8, .inl (fun _ => 0)), .inl (cy 0, 8, .inl (fun _ => 0)), .inl (cy 0, 8, .inl (fun _ => 0)), .inl (cy 0, 8, .inl (fun _ => 0)), .inl (cy 0, 8, .inl (fun _ => 0)), .inl (cy 0, 8, .inl (fun _ => 0)), .inl (cy 0, 4, .inl (fun _ => 0)), .inl (cy 0, 6, .inl (fun _ => 0)), .inl (cy 0, 6, .inl (fun _ => 0))]) (d := [.inr (2, [.null, .null, .null, .int 0, .int 0])]) (d2 := bkX2_init cy (B + 10)) (cN2 := 3) (sN2 := 464) [] (dkX5_init (i := 41) rfl) rfl rfl rfl rfl rfl rfl rfl (fun A U h => h.2.2.2.1) kcv_law (Nat.le_of_ble_eq_true rfl) rfl rfl rfl rfl (kcX2_init l D cy ax (B + 10)) ?_
  refine qc_putF (n := 86) (v := .ref (B + 10)) (es2 := [.inr (5, [.int 0, .int 0, .int 0, .ref (B + 1), .ref (B + 2), .ref (B + 3), .ref (B + 4), .ref (B + 5), .ref (B + 6), .ref (B + 7), .ref (B + 8), .ref (B + 9), .ref (B + 10), .null, .null, .int 0, .int 0, .int 0]), .inl (cy 2, 8, .inl (fun _ => 0)), .inl (cy 0, 8, .inl (fun _ => 0)), .inl (cy 0, 8, .inl (fun _ => 0)), .inl (cy 0, 8, .inl (fun _ => 0)), .inl (cy 0, 8, .inl (fun _ => 0)), .inl (cy 0, 8, .inl (fun _ => 0)), .inl (cy 0, 4, .inl (fun _ => 0)), .inl (cy 0, 6, .inl (fun _ => 0)), .inl (cy 0, 6, .inl (fun _ => 0)), .inr (2, [.ref (B + 11), .ref (B + 12), .ref (B + 13), .int 0, .int 0]), .inl (cy 0, 400, .inl (fun _ => 0)), .inl (cy 0, 32, .inl (fun _ => 0)), .inl (cy 0, 32, .inl (fun _ => 0))]) 0 12 (dkX5_init (i := 42) rfl) rfl rfl rfl gnX5 (Nat.le_of_ble_eq_true rfl) tkfX5_43 (Nat.le_of_ble_eq_true rfl) tyX5_ok nmX5 rfl rfl rfl rfl rfl ?_
  refine qc_aload_n (n := 87) 0 (dkX5_init (i := 43) rfl) rfl rfl ?_
  refine qc_new (n := 90) (r := 14) tyX2 [.null, .null, .null, .int 0, .int 0] (dkX5_init (i := 44) rfl) rfl (ci := 2) rfl gnX2 tyX2_ok dfX2 kcl_law kin_law kini_law rfl rfl rfl ?_
  refine qc_dup (n := 91) (dkX5_init (i := 45) rfl) rfl rfl ?_
  refine qc_callN (n := 94) (w := [.inr (5, [.int 0, .int 0, .int 0, .ref (B + 1), .ref (B + 2), .ref (B + 3), .ref (B + 4), .ref (B + 5), .ref (B + 6), .ref (B + 7), .ref (B + 8), .ref (B + 9), .ref (B + 10), .null, .null, .int 0, .int 0, .int 0]), .inl (cy 2, 8, .inl (fun _ => 0)), .inl (cy 0, 8, .inl (fun _ => 0)), .inl (cy 0, 8, .inl (fun _ => 0)), .inl (cy 0, 8, .inl (fun _ => 0)), .inl (cy 0, 8, .inl (fun _ => 0)), .inl (cy 0, 8, .inl (fun _ => 0)), .inl (cy 0, 4, .inl (fun _ => 0)), .inl (cy 0, 6, .inl (fun _ => 0)), .inl (cy 0, 6, .inl (fun _ => 0)), .inr (2, [.ref (B + 11), .ref (B + 12), .ref (B + 13), .int 0, .int 0]), .inl (cy 0, 400, .inl (fun _ => 0)), .inl (cy 0, 32, .inl (fun _ => 0)), .inl (cy 0, 32, .inl (fun _ => 0))]) (d := [.inr (2, [.null, .null, .null, .int 0, .int 0])]) (d2 := bkX2_init cy (B + 14)) (cN2 := 3) (sN2 := 464) [] (dkX5_init (i := 46) rfl) rfl rfl rfl rfl rfl rfl rfl (fun A U h => h.2.2.2.1) kcv_law (Nat.le_of_ble_eq_true rfl) rfl rfl rfl rfl (kcX2_init l D cy ax (B + 14)) ?_
  refine qc_putF (n := 97) (v := .ref (B + 14)) (es2 := [.inr (5, [.int 0, .int 0, .int 0, .ref (B + 1), .ref (B + 2), .ref (B + 3), .ref (B + 4), .ref (B + 5), .ref (B + 6), .ref (B + 7), .ref (B + 8), .ref (B + 9), .ref (B + 10), .ref (B + 14), .null, .int 0, .int 0, .int 0]), .inl (cy 2, 8, .inl (fun _ => 0)), .inl (cy 0, 8, .inl (fun _ => 0)), .inl (cy 0, 8, .inl (fun _ => 0)), .inl (cy 0, 8, .inl (fun _ => 0)), .inl (cy 0, 8, .inl (fun _ => 0)), .inl (cy 0, 8, .inl (fun _ => 0)), .inl (cy 0, 4, .inl (fun _ => 0)), .inl (cy 0, 6, .inl (fun _ => 0)), .inl (cy 0, 6, .inl (fun _ => 0)), .inr (2, [.ref (B + 11), .ref (B + 12), .ref (B + 13), .int 0, .int 0]), .inl (cy 0, 400, .inl (fun _ => 0)), .inl (cy 0, 32, .inl (fun _ => 0)), .inl (cy 0, 32, .inl (fun _ => 0)), .inr (2, [.ref (B + 15), .ref (B + 16), .ref (B + 17), .int 0, .int 0]), .inl (cy 0, 400, .inl (fun _ => 0)), .inl (cy 0, 32, .inl (fun _ => 0)), .inl (cy 0, 32, .inl (fun _ => 0))]) 0 13 (dkX5_init (i := 47) rfl) rfl rfl rfl gnX5 (Nat.le_of_ble_eq_true rfl) tkfX5_47 (Nat.le_of_ble_eq_true rfl) tyX5_ok nmX5 rfl rfl rfl rfl rfl ?_
  refine qc_aload_n (n := 98) 0 (dkX5_init (i := 48) rfl) rfl rfl ?_
  refine qc_new (n := 101) (r := 18) tyX2 [.null, .null, .null, .int 0, .int 0] (dkX5_init (i := 49) rfl) rfl (ci := 2) rfl gnX2 tyX2_ok dfX2 kcl_law kin_law kini_law rfl rfl rfl ?_
  refine qc_dup (n := 102) (dkX5_init (i := 50) rfl) rfl rfl ?_
  refine qc_callN (n := 105) (w := [.inr (5, [.int 0, .int 0, .int 0, .ref (B + 1), .ref (B + 2), .ref (B + 3), .ref (B + 4), .ref (B + 5), .ref (B + 6), .ref (B + 7), .ref (B + 8), .ref (B + 9), .ref (B + 10), .ref (B + 14), .null, .int 0, .int 0, .int 0]), .inl (cy 2, 8, .inl (fun _ => 0)), .inl (cy 0, 8, .inl (fun _ => 0)), .inl (cy 0, 8, .inl (fun _ => 0)), .inl (cy 0, 8, .inl (fun _ => 0)), .inl (cy 0, 8, .inl (fun _ => 0)), .inl (cy 0, 8, .inl (fun _ => 0)), .inl (cy 0, 4, .inl (fun _ => 0)), .inl (cy 0, 6, .inl (fun _ => 0)), .inl (cy 0, 6, .inl (fun _ => 0)), .inr (2, [.ref (B + 11), .ref (B + 12), .ref (B + 13), .int 0, .int 0]), .inl (cy 0, 400, .inl (fun _ => 0)), .inl (cy 0, 32, .inl (fun _ => 0)), .inl (cy 0, 32, .inl (fun _ => 0)), .inr (2, [.ref (B + 15), .ref (B + 16), .ref (B + 17), .int 0, .int 0]), .inl (cy 0, 400, .inl (fun _ => 0)), .inl (cy 0, 32, .inl (fun _ => 0)), .inl (cy 0, 32, .inl (fun _ => 0))]) (d := [.inr (2, [.null, .null, .null, .int 0, .int 0])]) (d2 := bkX2_init cy (B + 18)) (cN2 := 3) (sN2 := 464) [] (dkX5_init (i := 51) rfl) rfl rfl rfl rfl rfl rfl rfl (fun A U h => h.2.2.2.1) kcv_law (Nat.le_of_ble_eq_true rfl) rfl rfl rfl rfl (kcX2_init l D cy ax (B + 18)) ?_
  refine qc_putF (n := 108) (v := .ref (B + 18)) (es2 := [.inr (5, [.int 0, .int 0, .int 0, .ref (B + 1), .ref (B + 2), .ref (B + 3), .ref (B + 4), .ref (B + 5), .ref (B + 6), .ref (B + 7), .ref (B + 8), .ref (B + 9), .ref (B + 10), .ref (B + 14), .ref (B + 18), .int 0, .int 0, .int 0]), .inl (cy 2, 8, .inl (fun _ => 0)), .inl (cy 0, 8, .inl (fun _ => 0)), .inl (cy 0, 8, .inl (fun _ => 0)), .inl (cy 0, 8, .inl (fun _ => 0)), .inl (cy 0, 8, .inl (fun _ => 0)), .inl (cy 0, 8, .inl (fun _ => 0)), .inl (cy 0, 4, .inl (fun _ => 0)), .inl (cy 0, 6, .inl (fun _ => 0)), .inl (cy 0, 6, .inl (fun _ => 0)), .inr (2, [.ref (B + 11), .ref (B + 12), .ref (B + 13), .int 0, .int 0]), .inl (cy 0, 400, .inl (fun _ => 0)), .inl (cy 0, 32, .inl (fun _ => 0)), .inl (cy 0, 32, .inl (fun _ => 0)), .inr (2, [.ref (B + 15), .ref (B + 16), .ref (B + 17), .int 0, .int 0]), .inl (cy 0, 400, .inl (fun _ => 0)), .inl (cy 0, 32, .inl (fun _ => 0)), .inl (cy 0, 32, .inl (fun _ => 0)), .inr (2, [.ref (B + 19), .ref (B + 20), .ref (B + 21), .int 0, .int 0]), .inl (cy 0, 400, .inl (fun _ => 0)), .inl (cy 0, 32, .inl (fun _ => 0)), .inl (cy 0, 32, .inl (fun _ => 0))]) 0 14 (dkX5_init (i := 52) rfl) rfl rfl rfl gnX5 (Nat.le_of_ble_eq_true rfl) tkfX5_50 (Nat.le_of_ble_eq_true rfl) tyX5_ok nmX5 rfl rfl rfl rfl rfl ?_
  refine qc_vv (L := Ls) (S := qz) (o := (fsX5_clear qz).bind fun S1 => some S1) rfl rfl hX (by rw [show Ls.length = 22 from rfl]) rfl rfl (by rw [qc_es_go]; rfl) (by rw [scr_eq]; rfl) ?_
  refine qr_aload_n (n := 109) 0 (dkX5_init (i := 53) rfl) rfl rfl ?_
  refine qr_cvu (n := 112) 0 [] (dkX5_init (i := 54) rfl) rfl tkvX5_53 rfl rfl (Nat.le_of_ble_eq_true rfl) rfl rfl lsO_0 rfl (wsX5_clear (l, D, qc_ad B ax, cy) qz) (fun S1 => ?_)
  exact qr_vret (dkX5_init (i := 55) rfl) rfl rfl
end
