section
-- ===== PART A: goes FIRST, ahead of the names: the tables' words, and 'selects' of the private methods out of them =====
/-- a private method of a class that the tables say can be made, by its rows of tables_1 -/
def lw_okq (q : MethodName × Nat) : Prop := (q.1.cls ≠ "java/lang/invoke/MethodHandle" ∧ q.1.cls ≠ "java/lang/invoke/VarHandle") ∧ Cond.instantiable q.1.cls q.2 ∈ tables_1 ∧ Cond.privateMethod q.1 ∈ tables_1 ∧ Cond.instanceMethod q.1 ∈ tables_1
theorem lw_p0 : lw_okq (⟨"DayMarket", "isDay", "(I)Z"⟩, 12) := ⟨⟨by decide +kernel, by decide +kernel⟩, List.mem_of_getElem? (i := 18) (by decide +kernel), List.mem_of_getElem? (i := 298) (by decide +kernel), List.mem_of_getElem? (i := 299) (by decide +kernel)⟩
theorem lw_p1 : lw_okq (⟨"DayMarket", "compareWear", "(LDayMarket$Row;)V"⟩, 12) := ⟨⟨by decide +kernel, by decide +kernel⟩, List.mem_of_getElem? (i := 18) (by decide +kernel), List.mem_of_getElem? (i := 535) (by decide +kernel), List.mem_of_getElem? (i := 536) (by decide +kernel)⟩
theorem lw_p2 : lw_okq (⟨"DayMarket$Reader", "goToNext", "()V"⟩, 10) := ⟨⟨by decide +kernel, by decide +kernel⟩, List.mem_of_getElem? (i := 53) (by decide +kernel), List.mem_of_getElem? (i := 571) (by decide +kernel), List.mem_of_getElem? (i := 572) (by decide +kernel)⟩
theorem lw_p3 : lw_okq (⟨"DayMarket$Reader", "takeLetters", "(Z)V"⟩, 10) := ⟨⟨by decide +kernel, by decide +kernel⟩, List.mem_of_getElem? (i := 53) (by decide +kernel), List.mem_of_getElem? (i := 578) (by decide +kernel), List.mem_of_getElem? (i := 579) (by decide +kernel)⟩
theorem lw_p4 : lw_okq (⟨"DayMarket$Reader", "takeDigits", "(Z)V"⟩, 10) := ⟨⟨by decide +kernel, by decide +kernel⟩, List.mem_of_getElem? (i := 53) (by decide +kernel), List.mem_of_getElem? (i := 585) (by decide +kernel), List.mem_of_getElem? (i := 586) (by decide +kernel)⟩
theorem lw_p5 : lw_okq (⟨"DayMarket$Reader", "keyAtHand", "()I"⟩, 10) := ⟨⟨by decide +kernel, by decide +kernel⟩, List.mem_of_getElem? (i := 53) (by decide +kernel), List.mem_of_getElem? (i := 589) (by decide +kernel), List.mem_of_getElem? (i := 590) (by decide +kernel)⟩
theorem lw_p6 : lw_okq (⟨"DayMarket$Reader", "isWord", "(Ljava/lang/String;)Z"⟩, 10) := ⟨⟨by decide +kernel, by decide +kernel⟩, List.mem_of_getElem? (i := 53) (by decide +kernel), List.mem_of_getElem? (i := 599) (by decide +kernel), List.mem_of_getElem? (i := 600) (by decide +kernel)⟩
theorem lw_p7 : lw_okq (⟨"DayMarket$Reader", "readLevel", "(III)Z"⟩, 10) := ⟨⟨by decide +kernel, by decide +kernel⟩, List.mem_of_getElem? (i := 53) (by decide +kernel), List.mem_of_getElem? (i := 651) (by decide +kernel), List.mem_of_getElem? (i := 652) (by decide +kernel)⟩
theorem lw_p8 : lw_okq (⟨"DayMarket$Reader", "readPiece", "(II)Z"⟩, 10) := ⟨⟨by decide +kernel, by decide +kernel⟩, List.mem_of_getElem? (i := 53) (by decide +kernel), List.mem_of_getElem? (i := 655) (by decide +kernel), List.mem_of_getElem? (i := 656) (by decide +kernel)⟩
theorem lw_p9 : lw_okq (⟨"DayMarket$Reader", "takeLeaf", "(I)Z"⟩, 10) := ⟨⟨by decide +kernel, by decide +kernel⟩, List.mem_of_getElem? (i := 53) (by decide +kernel), List.mem_of_getElem? (i := 659) (by decide +kernel), List.mem_of_getElem? (i := 660) (by decide +kernel)⟩
theorem lw_p10 : lw_okq (⟨"DayMarket$Reader", "addStep", "(I)V"⟩, 10) := ⟨⟨by decide +kernel, by decide +kernel⟩, List.mem_of_getElem? (i := 53) (by decide +kernel), List.mem_of_getElem? (i := 663) (by decide +kernel), List.mem_of_getElem? (i := 664) (by decide +kernel)⟩
theorem lw_p11 : lw_okq (⟨"DayMarket$Reader", "nameAtHand", "()I"⟩, 10) := ⟨⟨by decide +kernel, by decide +kernel⟩, List.mem_of_getElem? (i := 53) (by decide +kernel), List.mem_of_getElem? (i := 667) (by decide +kernel), List.mem_of_getElem? (i := 668) (by decide +kernel)⟩
theorem lw_p12 : lw_okq (⟨"DayMarket$Reader", "isSign", "(I)Z"⟩, 10) := ⟨⟨by decide +kernel, by decide +kernel⟩, List.mem_of_getElem? (i := 53) (by decide +kernel), List.mem_of_getElem? (i := 732) (by decide +kernel), List.mem_of_getElem? (i := 733) (by decide +kernel)⟩
theorem lw_p13 : lw_okq (⟨"DayMarket$Reader", "readNot", "(II)Z"⟩, 10) := ⟨⟨by decide +kernel, by decide +kernel⟩, List.mem_of_getElem? (i := 53) (by decide +kernel), List.mem_of_getElem? (i := 736) (by decide +kernel), List.mem_of_getElem? (i := 737) (by decide +kernel)⟩
theorem lw_p14 : lw_okq (⟨"DayMarket$Reader", "readOpen", "(II)Z"⟩, 10) := ⟨⟨by decide +kernel, by decide +kernel⟩, List.mem_of_getElem? (i := 53) (by decide +kernel), List.mem_of_getElem? (i := 740) (by decide +kernel), List.mem_of_getElem? (i := 741) (by decide +kernel)⟩
theorem lw_p15 : lw_okq (⟨"DayMarket$Reader", "joinsAt", "(I)Z"⟩, 10) := ⟨⟨by decide +kernel, by decide +kernel⟩, List.mem_of_getElem? (i := 53) (by decide +kernel), List.mem_of_getElem? (i := 744) (by decide +kernel), List.mem_of_getElem? (i := 745) (by decide +kernel)⟩
def lw_privs_1 : List (MethodName × Nat) := [(⟨"DayMarket", "isDay", "(I)Z"⟩, 12), (⟨"DayMarket", "compareWear", "(LDayMarket$Row;)V"⟩, 12), (⟨"DayMarket$Reader", "goToNext", "()V"⟩, 10), (⟨"DayMarket$Reader", "takeLetters", "(Z)V"⟩, 10), (⟨"DayMarket$Reader", "takeDigits", "(Z)V"⟩, 10), (⟨"DayMarket$Reader", "keyAtHand", "()I"⟩, 10), (⟨"DayMarket$Reader", "isWord", "(Ljava/lang/String;)Z"⟩, 10), (⟨"DayMarket$Reader", "readLevel", "(III)Z"⟩, 10), (⟨"DayMarket$Reader", "readPiece", "(II)Z"⟩, 10), (⟨"DayMarket$Reader", "takeLeaf", "(I)Z"⟩, 10), (⟨"DayMarket$Reader", "addStep", "(I)V"⟩, 10), (⟨"DayMarket$Reader", "nameAtHand", "()I"⟩, 10), (⟨"DayMarket$Reader", "isSign", "(I)Z"⟩, 10), (⟨"DayMarket$Reader", "readNot", "(II)Z"⟩, 10), (⟨"DayMarket$Reader", "readOpen", "(II)Z"⟩, 10), (⟨"DayMarket$Reader", "joinsAt", "(I)Z"⟩, 10)]
theorem lw_r1 : ∀ q ∈ lw_privs_1, lw_okq q := List.forall_mem_cons.mpr ⟨lw_p0, List.forall_mem_cons.mpr ⟨lw_p1, List.forall_mem_cons.mpr ⟨lw_p2, List.forall_mem_cons.mpr ⟨lw_p3, List.forall_mem_cons.mpr ⟨lw_p4, List.forall_mem_cons.mpr ⟨lw_p5, List.forall_mem_cons.mpr ⟨lw_p6, List.forall_mem_cons.mpr ⟨lw_p7, List.forall_mem_cons.mpr ⟨lw_p8, List.forall_mem_cons.mpr ⟨lw_p9, List.forall_mem_cons.mpr ⟨lw_p10, List.forall_mem_cons.mpr ⟨lw_p11, List.forall_mem_cons.mpr ⟨lw_p12, List.forall_mem_cons.mpr ⟨lw_p13, List.forall_mem_cons.mpr ⟨lw_p14, List.forall_mem_cons.mpr ⟨lw_p15, fun _ h => absurd h List.not_mem_nil⟩⟩⟩⟩⟩⟩⟩⟩⟩⟩⟩⟩⟩⟩⟩⟩
theorem lw_p16 : lw_okq (⟨"DayMarketModel", "comes", "(IIII)V"⟩, 32) := ⟨⟨by decide +kernel, by decide +kernel⟩, List.mem_of_getElem? (i := 849) (by decide +kernel), List.mem_of_getElem? (i := 967) (by decide +kernel), List.mem_of_getElem? (i := 968) (by decide +kernel)⟩
theorem lw_p17 : lw_okq (⟨"DayMarketModel", "sets", "(III)V"⟩, 32) := ⟨⟨by decide +kernel, by decide +kernel⟩, List.mem_of_getElem? (i := 849) (by decide +kernel), List.mem_of_getElem? (i := 971) (by decide +kernel), List.mem_of_getElem? (i := 972) (by decide +kernel)⟩
theorem lw_p18 : lw_okq (⟨"DayMarketModel", "isDay", "(I)Z"⟩, 32) := ⟨⟨by decide +kernel, by decide +kernel⟩, List.mem_of_getElem? (i := 849) (by decide +kernel), List.mem_of_getElem? (i := 979) (by decide +kernel), List.mem_of_getElem? (i := 980) (by decide +kernel)⟩
theorem lw_p19 : lw_okq (⟨"DayMarketModel", "of", "(II)I"⟩, 32) := ⟨⟨by decide +kernel, by decide +kernel⟩, List.mem_of_getElem? (i := 849) (by decide +kernel), List.mem_of_getElem? (i := 984) (by decide +kernel), List.mem_of_getElem? (i := 985) (by decide +kernel)⟩
theorem lw_p20 : lw_okq (⟨"DayMarketModel", "valueOf", "(I)I"⟩, 32) := ⟨⟨by decide +kernel, by decide +kernel⟩, List.mem_of_getElem? (i := 849) (by decide +kernel), List.mem_of_getElem? (i := 988) (by decide +kernel), List.mem_of_getElem? (i := 989) (by decide +kernel)⟩
theorem lw_p21 : lw_okq (⟨"DayMarketModel", "priceBy", "(II)I"⟩, 32) := ⟨⟨by decide +kernel, by decide +kernel⟩, List.mem_of_getElem? (i := 849) (by decide +kernel), List.mem_of_getElem? (i := 992) (by decide +kernel), List.mem_of_getElem? (i := 993) (by decide +kernel)⟩
theorem lw_p22 : lw_okq (⟨"DayMarketModel", "counts", "(I)I"⟩, 32) := ⟨⟨by decide +kernel, by decide +kernel⟩, List.mem_of_getElem? (i := 849) (by decide +kernel), List.mem_of_getElem? (i := 996) (by decide +kernel), List.mem_of_getElem? (i := 997) (by decide +kernel)⟩
theorem lw_p23 : lw_okq (⟨"DayMarketModel", "textAt", "(I)I"⟩, 32) := ⟨⟨by decide +kernel, by decide +kernel⟩, List.mem_of_getElem? (i := 849) (by decide +kernel), List.mem_of_getElem? (i := 1000) (by decide +kernel), List.mem_of_getElem? (i := 1001) (by decide +kernel)⟩
theorem lw_p24 : lw_okq (⟨"DayMarketModel", "worked", "(I)I"⟩, 32) := ⟨⟨by decide +kernel, by decide +kernel⟩, List.mem_of_getElem? (i := 849) (by decide +kernel), List.mem_of_getElem? (i := 1007) (by decide +kernel), List.mem_of_getElem? (i := 1008) (by decide +kernel)⟩
theorem lw_p25 : lw_okq (⟨"DayMarketModel", "worth", "(I)I"⟩, 32) := ⟨⟨by decide +kernel, by decide +kernel⟩, List.mem_of_getElem? (i := 849) (by decide +kernel), List.mem_of_getElem? (i := 1014) (by decide +kernel), List.mem_of_getElem? (i := 1015) (by decide +kernel)⟩
theorem lw_p26 : lw_okq (⟨"DayMarketModel", "becomes", "(II)I"⟩, 32) := ⟨⟨by decide +kernel, by decide +kernel⟩, List.mem_of_getElem? (i := 849) (by decide +kernel), List.mem_of_getElem? (i := 1030) (by decide +kernel), List.mem_of_getElem? (i := 1031) (by decide +kernel)⟩
theorem lw_p27 : lw_okq (⟨"DayMarketModel", "daysOf", "(I)I"⟩, 32) := ⟨⟨by decide +kernel, by decide +kernel⟩, List.mem_of_getElem? (i := 849) (by decide +kernel), List.mem_of_getElem? (i := 1044) (by decide +kernel), List.mem_of_getElem? (i := 1045) (by decide +kernel)⟩
theorem lw_p28 : lw_okq (⟨"DayMarketModel", "offerOf", "(II)I"⟩, 32) := ⟨⟨by decide +kernel, by decide +kernel⟩, List.mem_of_getElem? (i := 849) (by decide +kernel), List.mem_of_getElem? (i := 1057) (by decide +kernel), List.mem_of_getElem? (i := 1058) (by decide +kernel)⟩
theorem lw_p29 : lw_okq (⟨"DayMarketModel", "drawn", "()I"⟩, 32) := ⟨⟨by decide +kernel, by decide +kernel⟩, List.mem_of_getElem? (i := 849) (by decide +kernel), List.mem_of_getElem? (i := 1070) (by decide +kernel), List.mem_of_getElem? (i := 1071) (by decide +kernel)⟩
theorem lw_p30 : lw_okq (⟨"DayMarketModel", "sells", "(III)V"⟩, 32) := ⟨⟨by decide +kernel, by decide +kernel⟩, List.mem_of_getElem? (i := 849) (by decide +kernel), List.mem_of_getElem? (i := 1084) (by decide +kernel), List.mem_of_getElem? (i := 1085) (by decide +kernel)⟩
theorem lw_p31 : lw_okq (⟨"DayMarketModel", "goesOn", "()V"⟩, 32) := ⟨⟨by decide +kernel, by decide +kernel⟩, List.mem_of_getElem? (i := 849) (by decide +kernel), List.mem_of_getElem? (i := 1093) (by decide +kernel), List.mem_of_getElem? (i := 1094) (by decide +kernel)⟩
def lw_privs_2 : List (MethodName × Nat) := [(⟨"DayMarketModel", "comes", "(IIII)V"⟩, 32), (⟨"DayMarketModel", "sets", "(III)V"⟩, 32), (⟨"DayMarketModel", "isDay", "(I)Z"⟩, 32), (⟨"DayMarketModel", "of", "(II)I"⟩, 32), (⟨"DayMarketModel", "valueOf", "(I)I"⟩, 32), (⟨"DayMarketModel", "priceBy", "(II)I"⟩, 32), (⟨"DayMarketModel", "counts", "(I)I"⟩, 32), (⟨"DayMarketModel", "textAt", "(I)I"⟩, 32), (⟨"DayMarketModel", "worked", "(I)I"⟩, 32), (⟨"DayMarketModel", "worth", "(I)I"⟩, 32), (⟨"DayMarketModel", "becomes", "(II)I"⟩, 32), (⟨"DayMarketModel", "daysOf", "(I)I"⟩, 32), (⟨"DayMarketModel", "offerOf", "(II)I"⟩, 32), (⟨"DayMarketModel", "drawn", "()I"⟩, 32), (⟨"DayMarketModel", "sells", "(III)V"⟩, 32), (⟨"DayMarketModel", "goesOn", "()V"⟩, 32)]
theorem lw_r2 : ∀ q ∈ lw_privs_2, lw_okq q := List.forall_mem_cons.mpr ⟨lw_p16, List.forall_mem_cons.mpr ⟨lw_p17, List.forall_mem_cons.mpr ⟨lw_p18, List.forall_mem_cons.mpr ⟨lw_p19, List.forall_mem_cons.mpr ⟨lw_p20, List.forall_mem_cons.mpr ⟨lw_p21, List.forall_mem_cons.mpr ⟨lw_p22, List.forall_mem_cons.mpr ⟨lw_p23, List.forall_mem_cons.mpr ⟨lw_p24, List.forall_mem_cons.mpr ⟨lw_p25, List.forall_mem_cons.mpr ⟨lw_p26, List.forall_mem_cons.mpr ⟨lw_p27, List.forall_mem_cons.mpr ⟨lw_p28, List.forall_mem_cons.mpr ⟨lw_p29, List.forall_mem_cons.mpr ⟨lw_p30, List.forall_mem_cons.mpr ⟨lw_p31, fun _ h => absurd h List.not_mem_nil⟩⟩⟩⟩⟩⟩⟩⟩⟩⟩⟩⟩⟩⟩⟩⟩
theorem lw_p32 : lw_okq (⟨"DayMarketModel", "wears", "(II)I"⟩, 32) := ⟨⟨by decide +kernel, by decide +kernel⟩, List.mem_of_getElem? (i := 849) (by decide +kernel), List.mem_of_getElem? (i := 1097) (by decide +kernel), List.mem_of_getElem? (i := 1098) (by decide +kernel)⟩
theorem lw_p33 : lw_okq (⟨"DayMarketModel", "bidder", "(I)I"⟩, 32) := ⟨⟨by decide +kernel, by decide +kernel⟩, List.mem_of_getElem? (i := 849) (by decide +kernel), List.mem_of_getElem? (i := 1101) (by decide +kernel), List.mem_of_getElem? (i := 1102) (by decide +kernel)⟩
theorem lw_p34 : lw_okq (⟨"DayMarketModel", "allCoins", "()I"⟩, 32) := ⟨⟨by decide +kernel, by decide +kernel⟩, List.mem_of_getElem? (i := 849) (by decide +kernel), List.mem_of_getElem? (i := 1109) (by decide +kernel), List.mem_of_getElem? (i := 1110) (by decide +kernel)⟩
theorem lw_p35 : lw_okq (⟨"DayMarketModel", "trueOf", "(I)I"⟩, 32) := ⟨⟨by decide +kernel, by decide +kernel⟩, List.mem_of_getElem? (i := 849) (by decide +kernel), List.mem_of_getElem? (i := 1117) (by decide +kernel), List.mem_of_getElem? (i := 1118) (by decide +kernel)⟩
theorem lw_p36 : lw_okq (⟨"DayMarketModel", "manyWith", "(II)I"⟩, 32) := ⟨⟨by decide +kernel, by decide +kernel⟩, List.mem_of_getElem? (i := 849) (by decide +kernel), List.mem_of_getElem? (i := 1121) (by decide +kernel), List.mem_of_getElem? (i := 1122) (by decide +kernel)⟩
theorem lw_p37 : lw_okq (⟨"DayMarketModel", "joyOf", "(II)I"⟩, 32) := ⟨⟨by decide +kernel, by decide +kernel⟩, List.mem_of_getElem? (i := 849) (by decide +kernel), List.mem_of_getElem? (i := 1137) (by decide +kernel), List.mem_of_getElem? (i := 1138) (by decide +kernel)⟩
theorem lw_p38 : lw_okq (⟨"DayMarketModel", "joy", "(II)I"⟩, 32) := ⟨⟨by decide +kernel, by decide +kernel⟩, List.mem_of_getElem? (i := 849) (by decide +kernel), List.mem_of_getElem? (i := 1141) (by decide +kernel), List.mem_of_getElem? (i := 1142) (by decide +kernel)⟩
theorem lw_p39 : lw_okq (⟨"DayMarketModel", "valuesOf", "(I)I"⟩, 32) := ⟨⟨by decide +kernel, by decide +kernel⟩, List.mem_of_getElem? (i := 849) (by decide +kernel), List.mem_of_getElem? (i := 1148) (by decide +kernel), List.mem_of_getElem? (i := 1149) (by decide +kernel)⟩
theorem lw_p40 : lw_okq (⟨"DayMarketModel", "areApart", "(I)Z"⟩, 32) := ⟨⟨by decide +kernel, by decide +kernel⟩, List.mem_of_getElem? (i := 849) (by decide +kernel), List.mem_of_getElem? (i := 1152) (by decide +kernel), List.mem_of_getElem? (i := 1153) (by decide +kernel)⟩
theorem lw_p41 : lw_okq (⟨"DayMarketModel", "laysBy", "()V"⟩, 32) := ⟨⟨by decide +kernel, by decide +kernel⟩, List.mem_of_getElem? (i := 849) (by decide +kernel), List.mem_of_getElem? (i := 1160) (by decide +kernel), List.mem_of_getElem? (i := 1161) (by decide +kernel)⟩
theorem lw_p42 : lw_okq (⟨"DayMarketModel", "laysBack", "()V"⟩, 32) := ⟨⟨by decide +kernel, by decide +kernel⟩, List.mem_of_getElem? (i := 849) (by decide +kernel), List.mem_of_getElem? (i := 1164) (by decide +kernel), List.mem_of_getElem? (i := 1165) (by decide +kernel)⟩
theorem lw_p43 : lw_okq (⟨"DayMarketModel", "goesOnMany", "(I)V"⟩, 32) := ⟨⟨by decide +kernel, by decide +kernel⟩, List.mem_of_getElem? (i := 849) (by decide +kernel), List.mem_of_getElem? (i := 1173) (by decide +kernel), List.mem_of_getElem? (i := 1174) (by decide +kernel)⟩
theorem lw_p44 : lw_okq (⟨"DayMarketModel", "richestNow", "()I"⟩, 32) := ⟨⟨by decide +kernel, by decide +kernel⟩, List.mem_of_getElem? (i := 849) (by decide +kernel), List.mem_of_getElem? (i := 1181) (by decide +kernel), List.mem_of_getElem? (i := 1182) (by decide +kernel)⟩
theorem lw_p45 : lw_okq (⟨"DayMarketModel", "allValues", "()I"⟩, 32) := ⟨⟨by decide +kernel, by decide +kernel⟩, List.mem_of_getElem? (i := 849) (by decide +kernel), List.mem_of_getElem? (i := 1189) (by decide +kernel), List.mem_of_getElem? (i := 1190) (by decide +kernel)⟩
theorem lw_p46 : lw_okq (⟨"DayMarketModel", "parse", "()I"⟩, 32) := ⟨⟨by decide +kernel, by decide +kernel⟩, List.mem_of_getElem? (i := 849) (by decide +kernel), List.mem_of_getElem? (i := 1218) (by decide +kernel), List.mem_of_getElem? (i := 1219) (by decide +kernel)⟩
theorem lw_p47 : lw_okq (⟨"DayMarketModel", "nextToken", "()V"⟩, 32) := ⟨⟨by decide +kernel, by decide +kernel⟩, List.mem_of_getElem? (i := 849) (by decide +kernel), List.mem_of_getElem? (i := 1222) (by decide +kernel), List.mem_of_getElem? (i := 1223) (by decide +kernel)⟩
def lw_privs_3 : List (MethodName × Nat) := [(⟨"DayMarketModel", "wears", "(II)I"⟩, 32), (⟨"DayMarketModel", "bidder", "(I)I"⟩, 32), (⟨"DayMarketModel", "allCoins", "()I"⟩, 32), (⟨"DayMarketModel", "trueOf", "(I)I"⟩, 32), (⟨"DayMarketModel", "manyWith", "(II)I"⟩, 32), (⟨"DayMarketModel", "joyOf", "(II)I"⟩, 32), (⟨"DayMarketModel", "joy", "(II)I"⟩, 32), (⟨"DayMarketModel", "valuesOf", "(I)I"⟩, 32), (⟨"DayMarketModel", "areApart", "(I)Z"⟩, 32), (⟨"DayMarketModel", "laysBy", "()V"⟩, 32), (⟨"DayMarketModel", "laysBack", "()V"⟩, 32), (⟨"DayMarketModel", "goesOnMany", "(I)V"⟩, 32), (⟨"DayMarketModel", "richestNow", "()I"⟩, 32), (⟨"DayMarketModel", "allValues", "()I"⟩, 32), (⟨"DayMarketModel", "parse", "()I"⟩, 32), (⟨"DayMarketModel", "nextToken", "()V"⟩, 32)]
theorem lw_r3 : ∀ q ∈ lw_privs_3, lw_okq q := List.forall_mem_cons.mpr ⟨lw_p32, List.forall_mem_cons.mpr ⟨lw_p33, List.forall_mem_cons.mpr ⟨lw_p34, List.forall_mem_cons.mpr ⟨lw_p35, List.forall_mem_cons.mpr ⟨lw_p36, List.forall_mem_cons.mpr ⟨lw_p37, List.forall_mem_cons.mpr ⟨lw_p38, List.forall_mem_cons.mpr ⟨lw_p39, List.forall_mem_cons.mpr ⟨lw_p40, List.forall_mem_cons.mpr ⟨lw_p41, List.forall_mem_cons.mpr ⟨lw_p42, List.forall_mem_cons.mpr ⟨lw_p43, List.forall_mem_cons.mpr ⟨lw_p44, List.forall_mem_cons.mpr ⟨lw_p45, List.forall_mem_cons.mpr ⟨lw_p46, List.forall_mem_cons.mpr ⟨lw_p47, fun _ h => absurd h List.not_mem_nil⟩⟩⟩⟩⟩⟩⟩⟩⟩⟩⟩⟩⟩⟩⟩⟩
theorem lw_p48 : lw_okq (⟨"DayMarketModel", "isLetter", "(I)Z"⟩, 32) := ⟨⟨by decide +kernel, by decide +kernel⟩, List.mem_of_getElem? (i := 849) (by decide +kernel), List.mem_of_getElem? (i := 1226) (by decide +kernel), List.mem_of_getElem? (i := 1227) (by decide +kernel)⟩
theorem lw_p49 : lw_okq (⟨"DayMarketModel", "isDigit", "(I)Z"⟩, 32) := ⟨⟨by decide +kernel, by decide +kernel⟩, List.mem_of_getElem? (i := 849) (by decide +kernel), List.mem_of_getElem? (i := 1232) (by decide +kernel), List.mem_of_getElem? (i := 1233) (by decide +kernel)⟩
theorem lw_p50 : lw_okq (⟨"DayMarketModel", "key", "()I"⟩, 32) := ⟨⟨by decide +kernel, by decide +kernel⟩, List.mem_of_getElem? (i := 849) (by decide +kernel), List.mem_of_getElem? (i := 1238) (by decide +kernel), List.mem_of_getElem? (i := 1239) (by decide +kernel)⟩
theorem lw_p51 : lw_okq (⟨"DayMarketModel", "isLong", "(IIIIII)Z"⟩, 32) := ⟨⟨by decide +kernel, by decide +kernel⟩, List.mem_of_getElem? (i := 849) (by decide +kernel), List.mem_of_getElem? (i := 1242) (by decide +kernel), List.mem_of_getElem? (i := 1243) (by decide +kernel)⟩
theorem lw_p52 : lw_okq (⟨"DayMarketModel", "isWordAt", "(IIII)Z"⟩, 32) := ⟨⟨by decide +kernel, by decide +kernel⟩, List.mem_of_getElem? (i := 849) (by decide +kernel), List.mem_of_getElem? (i := 1246) (by decide +kernel), List.mem_of_getElem? (i := 1247) (by decide +kernel)⟩
theorem lw_p53 : lw_okq (⟨"DayMarketModel", "either", "(I)Z"⟩, 32) := ⟨⟨by decide +kernel, by decide +kernel⟩, List.mem_of_getElem? (i := 849) (by decide +kernel), List.mem_of_getElem? (i := 1250) (by decide +kernel), List.mem_of_getElem? (i := 1251) (by decide +kernel)⟩
theorem lw_p54 : lw_okq (⟨"DayMarketModel", "both", "(I)Z"⟩, 32) := ⟨⟨by decide +kernel, by decide +kernel⟩, List.mem_of_getElem? (i := 849) (by decide +kernel), List.mem_of_getElem? (i := 1254) (by decide +kernel), List.mem_of_getElem? (i := 1255) (by decide +kernel)⟩
theorem lw_p55 : lw_okq (⟨"DayMarketModel", "test", "(I)Z"⟩, 32) := ⟨⟨by decide +kernel, by decide +kernel⟩, List.mem_of_getElem? (i := 849) (by decide +kernel), List.mem_of_getElem? (i := 1258) (by decide +kernel), List.mem_of_getElem? (i := 1259) (by decide +kernel)⟩
theorem lw_p56 : lw_okq (⟨"DayMarketModel", "sum", "(I)Z"⟩, 32) := ⟨⟨by decide +kernel, by decide +kernel⟩, List.mem_of_getElem? (i := 849) (by decide +kernel), List.mem_of_getElem? (i := 1262) (by decide +kernel), List.mem_of_getElem? (i := 1263) (by decide +kernel)⟩
theorem lw_p57 : lw_okq (⟨"DayMarketModel", "term", "(I)Z"⟩, 32) := ⟨⟨by decide +kernel, by decide +kernel⟩, List.mem_of_getElem? (i := 849) (by decide +kernel), List.mem_of_getElem? (i := 1266) (by decide +kernel), List.mem_of_getElem? (i := 1267) (by decide +kernel)⟩
theorem lw_p58 : lw_okq (⟨"DayMarketModel", "part0", "(I)Z"⟩, 32) := ⟨⟨by decide +kernel, by decide +kernel⟩, List.mem_of_getElem? (i := 849) (by decide +kernel), List.mem_of_getElem? (i := 1270) (by decide +kernel), List.mem_of_getElem? (i := 1271) (by decide +kernel)⟩
theorem lw_p59 : lw_okq (⟨"DayMarketModel", "step", "(II)V"⟩, 32) := ⟨⟨by decide +kernel, by decide +kernel⟩, List.mem_of_getElem? (i := 849) (by decide +kernel), List.mem_of_getElem? (i := 1274) (by decide +kernel), List.mem_of_getElem? (i := 1275) (by decide +kernel)⟩
theorem lw_p60 : lw_okq (⟨"DayMarketModel", "isSign", "(I)Z"⟩, 32) := ⟨⟨by decide +kernel, by decide +kernel⟩, List.mem_of_getElem? (i := 849) (by decide +kernel), List.mem_of_getElem? (i := 1281) (by decide +kernel), List.mem_of_getElem? (i := 1282) (by decide +kernel)⟩
theorem lw_p61 : lw_okq (⟨"DayMarketModel", "isText", "(I)Z"⟩, 32) := ⟨⟨by decide +kernel, by decide +kernel⟩, List.mem_of_getElem? (i := 849) (by decide +kernel), List.mem_of_getElem? (i := 1289) (by decide +kernel), List.mem_of_getElem? (i := 1290) (by decide +kernel)⟩
theorem lw_p62 : lw_okq (⟨"DayMarketModel", "setAside", "([I[I)V"⟩, 32) := ⟨⟨by decide +kernel, by decide +kernel⟩, List.mem_of_getElem? (i := 849) (by decide +kernel), List.mem_of_getElem? (i := 1358) (by decide +kernel), List.mem_of_getElem? (i := 1359) (by decide +kernel)⟩
theorem lw_p63 : lw_okq (⟨"DayMarketModel", "allWear", "()I"⟩, 32) := ⟨⟨by decide +kernel, by decide +kernel⟩, List.mem_of_getElem? (i := 849) (by decide +kernel), List.mem_of_getElem? (i := 1362) (by decide +kernel), List.mem_of_getElem? (i := 1363) (by decide +kernel)⟩
def lw_privs_4 : List (MethodName × Nat) := [(⟨"DayMarketModel", "isLetter", "(I)Z"⟩, 32), (⟨"DayMarketModel", "isDigit", "(I)Z"⟩, 32), (⟨"DayMarketModel", "key", "()I"⟩, 32), (⟨"DayMarketModel", "isLong", "(IIIIII)Z"⟩, 32), (⟨"DayMarketModel", "isWordAt", "(IIII)Z"⟩, 32), (⟨"DayMarketModel", "either", "(I)Z"⟩, 32), (⟨"DayMarketModel", "both", "(I)Z"⟩, 32), (⟨"DayMarketModel", "test", "(I)Z"⟩, 32), (⟨"DayMarketModel", "sum", "(I)Z"⟩, 32), (⟨"DayMarketModel", "term", "(I)Z"⟩, 32), (⟨"DayMarketModel", "part0", "(I)Z"⟩, 32), (⟨"DayMarketModel", "step", "(II)V"⟩, 32), (⟨"DayMarketModel", "isSign", "(I)Z"⟩, 32), (⟨"DayMarketModel", "isText", "(I)Z"⟩, 32), (⟨"DayMarketModel", "setAside", "([I[I)V"⟩, 32), (⟨"DayMarketModel", "allWear", "()I"⟩, 32)]
theorem lw_r4 : ∀ q ∈ lw_privs_4, lw_okq q := List.forall_mem_cons.mpr ⟨lw_p48, List.forall_mem_cons.mpr ⟨lw_p49, List.forall_mem_cons.mpr ⟨lw_p50, List.forall_mem_cons.mpr ⟨lw_p51, List.forall_mem_cons.mpr ⟨lw_p52, List.forall_mem_cons.mpr ⟨lw_p53, List.forall_mem_cons.mpr ⟨lw_p54, List.forall_mem_cons.mpr ⟨lw_p55, List.forall_mem_cons.mpr ⟨lw_p56, List.forall_mem_cons.mpr ⟨lw_p57, List.forall_mem_cons.mpr ⟨lw_p58, List.forall_mem_cons.mpr ⟨lw_p59, List.forall_mem_cons.mpr ⟨lw_p60, List.forall_mem_cons.mpr ⟨lw_p61, List.forall_mem_cons.mpr ⟨lw_p62, List.forall_mem_cons.mpr ⟨lw_p63, fun _ h => absurd h List.not_mem_nil⟩⟩⟩⟩⟩⟩⟩⟩⟩⟩⟩⟩⟩⟩⟩⟩
def lw_privs : List (MethodName × Nat) := lw_privs_1 ++ (lw_privs_2 ++ (lw_privs_3 ++ (lw_privs_4)))
def lw_tbl : List Cond := k2_sels lw_privs ++ tables_1
theorem lw_privs_ok : ∀ q ∈ lw_privs, lw_okq q := by
  show ∀ q ∈ lw_privs_1 ++ (lw_privs_2 ++ (lw_privs_3 ++ (lw_privs_4))), lw_okq q
  exact List.forall_mem_append.mpr ⟨lw_r1, List.forall_mem_append.mpr ⟨lw_r2, List.forall_mem_append.mpr ⟨lw_r3, lw_r4⟩⟩⟩
end
section
def RX0 : String := "DayMarket$Laws"
def TX0 : u_T := fun k => match k with
  | 0 => ("DayMarket$Laws", "key", "[I", true)
  | 1 => ("DayMarket$Laws", "leaves", "[I", true)
  | 2 => ("DayMarket$Laws", "length", "[I", true)
  | 3 => ("DayMarket$Laws", "steps", "[[I", true)
  | _ => ("DayMarket$Laws", "stack", "[I", true)
def tyX0 : Nat → FieldType := fun k => match k with
  | 0 => .array .int
  | 1 => .array .int
  | 2 => .array .int
  | 3 => .array (.array .int)
  | _ => .array .int
abbrev wsX00 : List Cond := u_ws RX0 TX0 5
theorem nmX0 : ∀ a, a < 5 → ∀ b, b < 5 → a ≠ b → (TX0 a).2.1 ≠ (TX0 b).2.1 := by decide +kernel
theorem tyX0_ok : ∀ k, k < 5 → parseFieldDescriptor (TX0 k).2.2.1 = some (tyX0 k) := by decide +kernel
abbrev cX0_init : ByteArray := prog_2_method_1_code
def yX0_init : MethodName := ⟨RX0, "<init>", "()V"⟩
abbrev cX0_write : ByteArray := prog_2_method_2_code
def yX0_write : MethodName := ⟨RX0, "write", "(ILDayMarket$Reader;)V"⟩
abbrev cX0_workOut : ByteArray := prog_2_method_3_code
def yX0_workOut : MethodName := ⟨RX0, "workOut", "(IIII)I"⟩
abbrev cX0_leaf : ByteArray := prog_2_method_4_code
def yX0_leaf : MethodName := ⟨RX0, "leaf", "(IIII)I"⟩
abbrev cX0_join : ByteArray := prog_2_method_5_code
def yX0_join : MethodName := ⟨RX0, "join", "(III)I"⟩
def RX1 : String := "DayMarket$Life"
def TX1 : u_T := fun k => match k with
  | 0 => ("DayMarket$Life", "value", "[I", true)
  | 1 => ("DayMarket$Life", "joy", "[I", true)
  | _ => ("DayMarket$Life", "clash", "[I", true)
def tyX1 : Nat → FieldType := fun k => match k with
  | 0 => .array .int
  | 1 => .array .int
  | _ => .array .int
abbrev wsX10 : List Cond := u_ws RX1 TX1 3
theorem nmX1 : ∀ a, a < 3 → ∀ b, b < 3 → a ≠ b → (TX1 a).2.1 ≠ (TX1 b).2.1 := by decide +kernel
theorem tyX1_ok : ∀ k, k < 3 → parseFieldDescriptor (TX1 k).2.2.1 = some (tyX1 k) := by decide +kernel
abbrev cX1_init : ByteArray := prog_3_method_1_code
def yX1_init : MethodName := ⟨RX1, "<init>", "()V"⟩
abbrev cX1_lookAt : ByteArray := prog_3_method_2_code
def yX1_lookAt : MethodName := ⟨RX1, "lookAt", "(LDayMarket$World;I)V"⟩
abbrev cX1_bestSet : ByteArray := prog_3_method_3_code
def yX1_bestSet : MethodName := ⟨RX1, "bestSet", "(II)I"⟩
abbrev cX1_canStand : ByteArray := prog_3_method_4_code
def yX1_canStand : MethodName := ⟨RX1, "canStand", "(II)Z"⟩
def RX2 : String := "DayMarket$Reader"
def TX2 : u_T := fun k => match k with
  | 0 => ("DayMarket$Reader", "tape", "[I", true)
  | 1 => ("DayMarket$Reader", "steps", "[I", true)
  | 2 => ("DayMarket$Reader", "length", "I", false)
  | 3 => ("DayMarket$Reader", "start", "I", false)
  | 4 => ("DayMarket$Reader", "end", "I", false)
  | 5 => ("DayMarket$Reader", "sort", "I", false)
  | 6 => ("DayMarket$Reader", "number", "I", false)
  | 7 => ("DayMarket$Reader", "key", "I", false)
  | 8 => ("DayMarket$Reader", "many", "I", false)
  | _ => ("DayMarket$Reader", "leaves", "I", false)
def tyX2 : Nat → FieldType := fun k => match k with
  | 0 => .array .int
  | 1 => .array .int
  | 2 => .int
  | 3 => .int
  | 4 => .int
  | 5 => .int
  | 6 => .int
  | 7 => .int
  | 8 => .int
  | _ => .int
abbrev wsX20 : List Cond := u_ws RX2 TX2 10
theorem nmX2 : ∀ a, a < 10 → ∀ b, b < 10 → a ≠ b → (TX2 a).2.1 ≠ (TX2 b).2.1 := by decide +kernel
theorem tyX2_ok : ∀ k, k < 10 → parseFieldDescriptor (TX2 k).2.2.1 = some (tyX2 k) := by decide +kernel
abbrev cX2_init : ByteArray := prog_4_method_1_code
def yX2_init : MethodName := ⟨RX2, "<init>", "()V"⟩
abbrev cX2_takeIn : ByteArray := prog_4_method_2_code
def yX2_takeIn : MethodName := ⟨RX2, "takeIn", "(I)V"⟩
abbrev cX2_readText : ByteArray := prog_4_method_3_code
def yX2_readText : MethodName := ⟨RX2, "readText", "()Z"⟩
abbrev cX2_readLevel : ByteArray := prog_4_method_4_code
def yX2_readLevel : MethodName := ⟨RX2, "readLevel", "(III)Z"⟩
abbrev cX2_readPiece : ByteArray := prog_4_method_5_code
def yX2_readPiece : MethodName := ⟨RX2, "readPiece", "(II)Z"⟩
abbrev cX2_readNot : ByteArray := prog_4_method_6_code
def yX2_readNot : MethodName := ⟨RX2, "readNot", "(II)Z"⟩
abbrev cX2_readOpen : ByteArray := prog_4_method_7_code
def yX2_readOpen : MethodName := ⟨RX2, "readOpen", "(II)Z"⟩
abbrev cX2_takeLeaf : ByteArray := prog_4_method_8_code
def yX2_takeLeaf : MethodName := ⟨RX2, "takeLeaf", "(I)Z"⟩
abbrev cX2_addStep : ByteArray := prog_4_method_9_code
def yX2_addStep : MethodName := ⟨RX2, "addStep", "(I)V"⟩
abbrev cX2_isSign : ByteArray := prog_4_method_10_code
def yX2_isSign : MethodName := ⟨RX2, "isSign", "(I)Z"⟩
abbrev cX2_joinsAt : ByteArray := prog_4_method_11_code
def yX2_joinsAt : MethodName := ⟨RX2, "joinsAt", "(I)Z"⟩
abbrev cX2_keyAtHand : ByteArray := prog_4_method_12_code
def yX2_keyAtHand : MethodName := ⟨RX2, "keyAtHand", "()I"⟩
abbrev cX2_nameAtHand : ByteArray := prog_4_method_13_code
def yX2_nameAtHand : MethodName := ⟨RX2, "nameAtHand", "()I"⟩
abbrev cX2_isWord : ByteArray := prog_4_method_14_code
def yX2_isWord : MethodName := ⟨RX2, "isWord", "(Ljava/lang/String;)Z"⟩
abbrev cX2_keyText : ByteArray := prog_4_method_15_code
def yX2_keyText : MethodName := ⟨RX2, "keyText", "(I)Ljava/lang/String;"⟩
abbrev cX2_namesOf : ByteArray := prog_4_method_16_code
def yX2_namesOf : MethodName := ⟨RX2, "namesOf", "(I)Ljava/lang/String;"⟩
abbrev cX2_goToNext : ByteArray := prog_4_method_17_code
def yX2_goToNext : MethodName := ⟨RX2, "goToNext", "()V"⟩
abbrev cX2_takeLetters : ByteArray := prog_4_method_18_code
def yX2_takeLetters : MethodName := ⟨RX2, "takeLetters", "(Z)V"⟩
abbrev cX2_takeDigits : ByteArray := prog_4_method_19_code
def yX2_takeDigits : MethodName := ⟨RX2, "takeDigits", "(Z)V"⟩
abbrev cX2_isLetter : ByteArray := prog_4_method_20_code
def yX2_isLetter : MethodName := ⟨RX2, "isLetter", "(I)Z"⟩
abbrev cX2_isDigit : ByteArray := prog_4_method_21_code
def yX2_isDigit : MethodName := ⟨RX2, "isDigit", "(I)Z"⟩
def RX3 : String := "DayMarket$Row"
def TX3 : u_T := fun k => match k with
  | 0 => ("DayMarket$Row", "places", "[I", true)
  | 1 => ("DayMarket$Row", "sort", "I", false)
  | _ => ("DayMarket$Row", "length", "I", false)
def tyX3 : Nat → FieldType := fun k => match k with
  | 0 => .array .int
  | 1 => .int
  | _ => .int
abbrev wsX30 : List Cond := u_ws RX3 TX3 3
theorem nmX3 : ∀ a, a < 3 → ∀ b, b < 3 → a ≠ b → (TX3 a).2.1 ≠ (TX3 b).2.1 := by decide +kernel
theorem tyX3_ok : ∀ k, k < 3 → parseFieldDescriptor (TX3 k).2.2.1 = some (tyX3 k) := by decide +kernel
abbrev cX3_init : ByteArray := prog_5_method_1_code
def yX3_init : MethodName := ⟨RX3, "<init>", "()V"⟩
abbrev cX3_renew : ByteArray := prog_5_method_2_code
def yX3_renew : MethodName := ⟨RX3, "renew", "(II)V"⟩
abbrev cX3_become : ByteArray := prog_5_method_3_code
def yX3_become : MethodName := ⟨RX3, "become", "(LDayMarket$Row;)V"⟩
abbrev cX3_hasPlace : ByteArray := prog_5_method_4_code
def yX3_hasPlace : MethodName := ⟨RX3, "hasPlace", "(I)Z"⟩
abbrev cX3_hasRun : ByteArray := prog_5_method_5_code
def yX3_hasRun : MethodName := ⟨RX3, "hasRun", "(II)Z"⟩
abbrev cX3_isNumber : ByteArray := prog_5_method_6_code
def yX3_isNumber : MethodName := ⟨RX3, "isNumber", "(I)Z"⟩
def RX4 : String := "DayMarket$Slot"
def TX4 : u_T := fun k => match k with
  | 0 => ("DayMarket$Slot", "row", "LDayMarket$Row;", true)
  | 1 => ("DayMarket$Slot", "thing", "I", false)
  | 2 => ("DayMarket$Slot", "kind", "I", false)
  | 3 => ("DayMarket$Slot", "date", "I", false)
  | _ => ("DayMarket$Slot", "number", "I", false)
def tyX4 : Nat → FieldType := fun k => match k with
  | 0 => .object "DayMarket$Row"
  | 1 => .int
  | 2 => .int
  | 3 => .int
  | _ => .int
abbrev wsX40 : List Cond := u_ws RX4 TX4 5
theorem nmX4 : ∀ a, a < 5 → ∀ b, b < 5 → a ≠ b → (TX4 a).2.1 ≠ (TX4 b).2.1 := by decide +kernel
theorem tyX4_ok : ∀ k, k < 5 → parseFieldDescriptor (TX4 k).2.2.1 = some (tyX4 k) := by decide +kernel
abbrev cX4_init : ByteArray := prog_6_method_1_code
def yX4_init : MethodName := ⟨RX4, "<init>", "()V"⟩
def RX5 : String := "DayMarket$World"
def TX5 : u_T := fun k => match k with
  | 0 => ("DayMarket$World", "laws", "LDayMarket$Laws;", true)
  | 1 => ("DayMarket$World", "kind", "[I", true)
  | 2 => ("DayMarket$World", "date", "[I", true)
  | 3 => ("DayMarket$World", "tone", "[I", true)
  | 4 => ("DayMarket$World", "wear", "[I", true)
  | 5 => ("DayMarket$World", "owner", "[I", true)
  | 6 => ("DayMarket$World", "had", "[I", true)
  | 7 => ("DayMarket$World", "coins", "[I", true)
  | 8 => ("DayMarket$World", "wish", "[I", true)
  | 9 => ("DayMarket$World", "counting", "[I", true)
  | 10 => ("DayMarket$World", "days", "I", false)
  | 11 => ("DayMarket$World", "texts", "I", false)
  | 12 => ("DayMarket$World", "sales", "I", false)
  | 13 => ("DayMarket$World", "lost", "I", false)
  | 14 => ("DayMarket$World", "market", "I", false)
  | _ => ("DayMarket$World", "z", "I", false)
def tyX5 : Nat → FieldType := fun k => match k with
  | 0 => .object "DayMarket$Laws"
  | 1 => .array .int
  | 2 => .array .int
  | 3 => .array .int
  | 4 => .array .int
  | 5 => .array .int
  | 6 => .array .int
  | 7 => .array .int
  | 8 => .array .int
  | 9 => .array .int
  | 10 => .int
  | 11 => .int
  | 12 => .int
  | 13 => .int
  | 14 => .int
  | _ => .int
abbrev wsX50 : List Cond := u_ws RX5 TX5 16
theorem nmX5 : ∀ a, a < 16 → ∀ b, b < 16 → a ≠ b → (TX5 a).2.1 ≠ (TX5 b).2.1 := by decide +kernel
theorem tyX5_ok : ∀ k, k < 16 → parseFieldDescriptor (TX5 k).2.2.1 = some (tyX5 k) := by decide +kernel
abbrev cX5_init : ByteArray := prog_7_method_1_code
def yX5_init : MethodName := ⟨RX5, "<init>", "(LDayMarket$Laws;)V"⟩
abbrev cX5_become : ByteArray := prog_7_method_2_code
def yX5_become : MethodName := ⟨RX5, "become", "(LDayMarket$World;)V"⟩
abbrev cX5_addDay : ByteArray := prog_7_method_3_code
def yX5_addDay : MethodName := ⟨RX5, "addDay", "(IIII)I"⟩
abbrev cX5_draw : ByteArray := prog_7_method_4_code
def yX5_draw : MethodName := ⟨RX5, "draw", "()I"⟩
abbrev cX5_drawDay : ByteArray := prog_7_method_5_code
def yX5_drawDay : MethodName := ⟨RX5, "drawDay", "()V"⟩
abbrev cX5_daysOf : ByteArray := prog_7_method_6_code
def yX5_daysOf : MethodName := ⟨RX5, "daysOf", "(I)I"⟩
abbrev cX5_priceOf : ByteArray := prog_7_method_7_code
def yX5_priceOf : MethodName := ⟨RX5, "priceOf", "(II)I"⟩
abbrev cX5_valueOf : ByteArray := prog_7_method_8_code
def yX5_valueOf : MethodName := ⟨RX5, "valueOf", "(I)I"⟩
abbrev cX5_bidOf : ByteArray := prog_7_method_9_code
def yX5_bidOf : MethodName := ⟨RX5, "bidOf", "(III)I"⟩
abbrev cX5_bestBidder : ByteArray := prog_7_method_10_code
def yX5_bestBidder : MethodName := ⟨RX5, "bestBidder", "(II)I"⟩
abbrev cX5_sell : ByteArray := prog_7_method_11_code
def yX5_sell : MethodName := ⟨RX5, "sell", "(III)V"⟩
abbrev cX5_marketsLeft : ByteArray := prog_7_method_12_code
def yX5_marketsLeft : MethodName := ⟨RX5, "marketsLeft", "(I)I"⟩
abbrev cX5_goOn : ByteArray := prog_7_method_13_code
def yX5_goOn : MethodName := ⟨RX5, "goOn", "(I)V"⟩
abbrev cX5_wearDays : ByteArray := prog_7_method_14_code
def yX5_wearDays : MethodName := ⟨RX5, "wearDays", "()V"⟩
abbrev cX5_sellDays : ByteArray := prog_7_method_15_code
def yX5_sellDays : MethodName := ⟨RX5, "sellDays", "()V"⟩
abbrev cX5_allCoins : ByteArray := prog_7_method_16_code
def yX5_allCoins : MethodName := ⟨RX5, "allCoins", "()I"⟩
abbrev cX5_allWear : ByteArray := prog_7_method_17_code
def yX5_allWear : MethodName := ⟨RX5, "allWear", "()I"⟩
abbrev cX5_allValue : ByteArray := prog_7_method_18_code
def yX5_allValue : MethodName := ⟨RX5, "allValue", "()I"⟩
abbrev cX5_howMany : ByteArray := prog_7_method_19_code
def yX5_howMany : MethodName := ⟨RX5, "howMany", "(II)I"⟩
abbrev cX5_trueTone : ByteArray := prog_7_method_20_code
def yX5_trueTone : MethodName := ⟨RX5, "trueTone", "(I)I"⟩
abbrev cX5_falseDays : ByteArray := prog_7_method_21_code
def yX5_falseDays : MethodName := ⟨RX5, "falseDays", "()I"⟩
def RX6 : String := "DayMarket"
def TX6 : u_T := fun k => match k with
  | 0 => ("DayMarket", "laws", "LDayMarket$Laws;", true)
  | 1 => ("DayMarket", "reader", "LDayMarket$Reader;", true)
  | 2 => ("DayMarket", "now", "LDayMarket$World;", true)
  | 3 => ("DayMarket", "image", "LDayMarket$World;", true)
  | 4 => ("DayMarket", "thought", "LDayMarket$World;", true)
  | 5 => ("DayMarket", "life", "LDayMarket$Life;", true)
  | 6 => ("DayMarket", "differences", "[I", true)
  | 7 => ("DayMarket", "sheets", "[LDayMarket$Row;", true)
  | 8 => ("DayMarket", "slots", "[LDayMarket$Slot;", true)
  | 9 => ("DayMarket", "waiting", "[I", true)
  | 10 => ("DayMarket", "waits", "I", false)
  | _ => ("DayMarket", "kept", "Z", false)
def tyX6 : Nat → FieldType := fun k => match k with
  | 0 => .object "DayMarket$Laws"
  | 1 => .object "DayMarket$Reader"
  | 2 => .object "DayMarket$World"
  | 3 => .object "DayMarket$World"
  | 4 => .object "DayMarket$World"
  | 5 => .object "DayMarket$Life"
  | 6 => .array .int
  | 7 => .array (.object "DayMarket$Row")
  | 8 => .array (.object "DayMarket$Slot")
  | 9 => .array .int
  | 10 => .int
  | _ => .boolean
abbrev wsX60 : List Cond := u_ws RX6 TX6 12
theorem nmX6 : ∀ a, a < 12 → ∀ b, b < 12 → a ≠ b → (TX6 a).2.1 ≠ (TX6 b).2.1 := by decide +kernel
theorem tyX6_ok : ∀ k, k < 12 → parseFieldDescriptor (TX6 k).2.2.1 = some (tyX6 k) := by decide +kernel
abbrev cX6_init : ByteArray := prog_1_method_1_code
def yX6_init : MethodName := ⟨RX6, "<init>", "()V"⟩
abbrev cX6_day : ByteArray := prog_1_method_2_code
def yX6_day : MethodName := ⟨RX6, "day", "(IIII)I"⟩
abbrev cX6_told : ByteArray := prog_1_method_3_code
def yX6_told : MethodName := ⟨RX6, "told", "(II)I"⟩
abbrev cX6_as : ByteArray := prog_1_method_4_code
def yX6_as : MethodName := ⟨RX6, "as", "(II)I"⟩
abbrev cX6_turns : ByteArray := prog_1_method_5_code
def yX6_turns : MethodName := ⟨RX6, "turns", "(II)I"⟩
abbrev cX6_set : ByteArray := prog_1_method_6_code
def yX6_set : MethodName := ⟨RX6, "set", "(III)I"⟩
abbrev cX6_one : ByteArray := prog_1_method_7_code
def yX6_one : MethodName := ⟨RX6, "one", "(II)I"⟩
abbrev cX6_gives : ByteArray := prog_1_method_8_code
def yX6_gives : MethodName := ⟨RX6, "gives", "(III)I"⟩
abbrev cX6_offer : ByteArray := prog_1_method_9_code
def yX6_offer : MethodName := ⟨RX6, "offer", "(II)I"⟩
abbrev cX6_deal : ByteArray := prog_1_method_10_code
def yX6_deal : MethodName := ⟨RX6, "deal", "(I)I"⟩
abbrev cX6_seed : ByteArray := prog_1_method_11_code
def yX6_seed : MethodName := ⟨RX6, "seed", "(I)I"⟩
abbrev cX6_sale : ByteArray := prog_1_method_12_code
def yX6_sale : MethodName := ⟨RX6, "sale", "(III)I"⟩
abbrev cX6_markets : ByteArray := prog_1_method_13_code
def yX6_markets : MethodName := ⟨RX6, "markets", "(I)I"⟩
abbrev cX6_ledger : ByteArray := prog_1_method_14_code
def yX6_ledger : MethodName := ⟨RX6, "ledger", "(I)I"⟩
abbrev cX6_isTrue : ByteArray := prog_1_method_15_code
def yX6_isTrue : MethodName := ⟨RX6, "isTrue", "(I)I"⟩
abbrev cX6_falseMany : ByteArray := prog_1_method_16_code
def yX6_falseMany : MethodName := ⟨RX6, "falseMany", "()I"⟩
abbrev cX6_fill : ByteArray := prog_1_method_17_code
def yX6_fill : MethodName := ⟨RX6, "fill", "(II)I"⟩
abbrev cX6_emptied : ByteArray := prog_1_method_18_code
def yX6_emptied : MethodName := ⟨RX6, "emptied", "(I)I"⟩
abbrev cX6_behind : ByteArray := prog_1_method_19_code
def yX6_behind : MethodName := ⟨RX6, "behind", "(III)I"⟩
abbrev cX6_richest : ByteArray := prog_1_method_20_code
def yX6_richest : MethodName := ⟨RX6, "richest", "(II)I"⟩
abbrev cX6_worn : ByteArray := prog_1_method_21_code
def yX6_worn : MethodName := ⟨RX6, "worn", "()I"⟩
abbrev cX6_dye : ByteArray := prog_1_method_22_code
def yX6_dye : MethodName := ⟨RX6, "dye", "(III)I"⟩
abbrev cX6_mends : ByteArray := prog_1_method_23_code
def yX6_mends : MethodName := ⟨RX6, "mends", "(II)I"⟩
abbrev cX6_toldBy : ByteArray := prog_1_method_24_code
def yX6_toldBy : MethodName := ⟨RX6, "toldBy", "(II)I"⟩
abbrev cX6_fine : ByteArray := prog_1_method_25_code
def yX6_fine : MethodName := ⟨RX6, "fine", "(I)I"⟩
abbrev cX6_feed : ByteArray := prog_1_method_26_code
def yX6_feed : MethodName := ⟨RX6, "feed", "(III)I"⟩
abbrev cX6_trim : ByteArray := prog_1_method_27_code
def yX6_trim : MethodName := ⟨RX6, "trim", "(I)I"⟩
abbrev cX6_text : ByteArray := prog_1_method_28_code
def yX6_text : MethodName := ⟨RX6, "text", "()I"⟩
abbrev cX6_textTold : ByteArray := prog_1_method_29_code
def yX6_textTold : MethodName := ⟨RX6, "textTold", "(II)I"⟩
abbrev cX6_why : ByteArray := prog_1_method_30_code
def yX6_why : MethodName := ⟨RX6, "why", "(I)I"⟩
abbrev cX6_sheet : ByteArray := prog_1_method_31_code
def yX6_sheet : MethodName := ⟨RX6, "sheet", "(III)I"⟩
abbrev cX6_mark : ByteArray := prog_1_method_32_code
def yX6_mark : MethodName := ⟨RX6, "mark", "(III)I"⟩
abbrev cX6_pour : ByteArray := prog_1_method_33_code
def yX6_pour : MethodName := ⟨RX6, "pour", "(I)I"⟩
abbrev cX6_reads : ByteArray := prog_1_method_34_code
def yX6_reads : MethodName := ⟨RX6, "reads", "(I)I"⟩
abbrev cX6_copy : ByteArray := prog_1_method_35_code
def yX6_copy : MethodName := ⟨RX6, "copy", "(IIIII)I"⟩
abbrev cX6_lay : ByteArray := prog_1_method_36_code
def yX6_lay : MethodName := ⟨RX6, "lay", "(III)I"⟩
abbrev cX6_ask : ByteArray := prog_1_method_37_code
def yX6_ask : MethodName := ⟨RX6, "ask", "(II)I"⟩
abbrev cX6_item : ByteArray := prog_1_method_38_code
def yX6_item : MethodName := ⟨RX6, "item", "(II)I"⟩
abbrev cX6_rest : ByteArray := prog_1_method_39_code
def yX6_rest : MethodName := ⟨RX6, "rest", "(II)I"⟩
abbrev cX6_tell : ByteArray := prog_1_method_40_code
def yX6_tell : MethodName := ⟨RX6, "tell", "(I)I"⟩
abbrev cX6_check : ByteArray := prog_1_method_41_code
def yX6_check : MethodName := ⟨RX6, "check", "(I)I"⟩
abbrev cX6_keep : ByteArray := prog_1_method_42_code
def yX6_keep : MethodName := ⟨RX6, "keep", "()I"⟩
abbrev cX6_back : ByteArray := prog_1_method_43_code
def yX6_back : MethodName := ⟨RX6, "back", "()I"⟩
abbrev cX6_count : ByteArray := prog_1_method_44_code
def yX6_count : MethodName := ⟨RX6, "count", "(I)I"⟩
abbrev cX6_isDay : ByteArray := prog_1_method_45_code
def yX6_isDay : MethodName := ⟨RX6, "isDay", "(I)Z"⟩
abbrev cX6_isOne : ByteArray := prog_1_method_46_code
def yX6_isOne : MethodName := ⟨RX6, "isOne", "(I)Z"⟩
abbrev cX6_isKind : ByteArray := prog_1_method_47_code
def yX6_isKind : MethodName := ⟨RX6, "isKind", "(I)Z"⟩
abbrev cX6_isSheet : ByteArray := prog_1_method_48_code
def yX6_isSheet : MethodName := ⟨RX6, "isSheet", "(I)Z"⟩
abbrev cX6_isSlot : ByteArray := prog_1_method_49_code
def yX6_isSlot : MethodName := ⟨RX6, "isSlot", "(I)Z"⟩
abbrev cX6_within : ByteArray := prog_1_method_50_code
def yX6_within : MethodName := ⟨RX6, "within", "(III)Z"⟩
abbrev cX6_held : ByteArray := prog_1_method_51_code
def yX6_held : MethodName := ⟨RX6, "held", "(III)I"⟩
abbrev cX6_exchange : ByteArray := prog_1_method_52_code
def yX6_exchange : MethodName := ⟨RX6, "exchange", "([III)I"⟩
abbrev cX6_sumOver : ByteArray := prog_1_method_53_code
def yX6_sumOver : MethodName := ⟨RX6, "sumOver", "([II)I"⟩
abbrev cX6_isUnder : ByteArray := prog_1_method_54_code
def yX6_isUnder : MethodName := ⟨RX6, "isUnder", "(II)Z"⟩
abbrev cX6_worthOf : ByteArray := prog_1_method_55_code
def yX6_worthOf : MethodName := ⟨RX6, "worthOf", "(II)I"⟩
abbrev cX6_compareWear : ByteArray := prog_1_method_56_code
def yX6_compareWear : MethodName := ⟨RX6, "compareWear", "(LDayMarket$Row;)V"⟩
def RX7 : String := "DayMarketModel"
def TX7 : u_T := fun k => match k with
  | 0 => ("DayMarketModel", "s", "[I", true)
  | 1 => ("DayMarketModel", "image", "[I", true)
  | 2 => ("DayMarketModel", "aside", "[I", true)
  | 3 => ("DayMarketModel", "hasImage", "Z", false)
  | 4 => ("DayMarketModel", "tSort", "[I", true)
  | 5 => ("DayMarketModel", "tSize", "[I", true)
  | 6 => ("DayMarketModel", "tNumber", "[I", true)
  | 7 => ("DayMarketModel", "held", "[I", true)
  | 8 => ("DayMarketModel", "heldNumber", "[I", true)
  | 9 => ("DayMarketModel", "heldWorth", "[I", true)
  | 10 => ("DayMarketModel", "heldSize", "[I", true)
  | 11 => ("DayMarketModel", "heldRow", "[I", true)
  | 12 => ("DayMarketModel", "values", "[I", true)
  | 13 => ("DayMarketModel", "close", "[I", true)
  | 14 => ("DayMarketModel", "tape", "[I", true)
  | 15 => ("DayMarketModel", "taped", "I", false)
  | 16 => ("DayMarketModel", "begin", "I", false)
  | 17 => ("DayMarketModel", "behind", "I", false)
  | 18 => ("DayMarketModel", "token", "I", false)
  | 19 => ("DayMarketModel", "number", "I", false)
  | 20 => ("DayMarketModel", "letter", "I", false)
  | 21 => ("DayMarketModel", "deep", "I", false)
  | 22 => ("DayMarketModel", "turned", "I", false)
  | 23 => ("DayMarketModel", "laid", "I", false)
  | 24 => ("DayMarketModel", "laidAt", "I", false)
  | 25 => ("DayMarketModel", "said", "I", false)
  | 26 => ("DayMarketModel", "named", "[I", true)
  | 27 => ("DayMarketModel", "pile", "[I", true)
  | 28 => ("DayMarketModel", "carried", "[I", true)
  | 29 => ("DayMarketModel", "waits", "[I", true)
  | 30 => ("DayMarketModel", "waiting", "I", false)
  | _ => ("DayMarketModel", "rowDue", "[I", true)
def tyX7 : Nat → FieldType := fun k => match k with
  | 0 => .array .int
  | 1 => .array .int
  | 2 => .array .int
  | 3 => .boolean
  | 4 => .array .int
  | 5 => .array .int
  | 6 => .array .int
  | 7 => .array .int
  | 8 => .array .int
  | 9 => .array .int
  | 10 => .array .int
  | 11 => .array .int
  | 12 => .array .int
  | 13 => .array .int
  | 14 => .array .int
  | 15 => .int
  | 16 => .int
  | 17 => .int
  | 18 => .int
  | 19 => .int
  | 20 => .int
  | 21 => .int
  | 22 => .int
  | 23 => .int
  | 24 => .int
  | 25 => .int
  | 26 => .array .int
  | 27 => .array .int
  | 28 => .array .int
  | 29 => .array .int
  | 30 => .int
  | _ => .array .int
abbrev wsX70 : List Cond := u_ws RX7 TX7 32
theorem nmX7 : ∀ a, a < 32 → ∀ b, b < 32 → a ≠ b → (TX7 a).2.1 ≠ (TX7 b).2.1 := by decide +kernel
theorem tyX7_ok : ∀ k, k < 32 → parseFieldDescriptor (TX7 k).2.2.1 = some (tyX7 k) := by decide +kernel
abbrev cX7_init : ByteArray := prog_9_method_1_code
def yX7_init : MethodName := ⟨RX7, "<init>", "()V"⟩
abbrev cX7_isIn : ByteArray := prog_9_method_2_code
def yX7_isIn : MethodName := ⟨RX7, "isIn", "(JJJ)Z"⟩
abbrev cX7_orNone : ByteArray := prog_9_method_3_code
def yX7_orNone : MethodName := ⟨RX7, "orNone", "(I)I"⟩
abbrev cX7_within : ByteArray := prog_9_method_4_code
def yX7_within : MethodName := ⟨RX7, "within", "(II)I"⟩
abbrev cX7_off : ByteArray := prog_9_method_5_code
def yX7_off : MethodName := ⟨RX7, "off", "(II)I"⟩
abbrev cX7_becomes : ByteArray := prog_9_method_6_code
def yX7_becomes : MethodName := ⟨RX7, "becomes", "(II)I"⟩
abbrev cX7_textAt : ByteArray := prog_9_method_7_code
def yX7_textAt : MethodName := ⟨RX7, "textAt", "(I)I"⟩
abbrev cX7_of : ByteArray := prog_9_method_8_code
def yX7_of : MethodName := ⟨RX7, "of", "(II)I"⟩
abbrev cX7_sets : ByteArray := prog_9_method_9_code
def yX7_sets : MethodName := ⟨RX7, "sets", "(III)V"⟩
abbrev cX7_isDay : ByteArray := prog_9_method_10_code
def yX7_isDay : MethodName := ⟨RX7, "isDay", "(I)Z"⟩
abbrev cX7_isOne : ByteArray := prog_9_method_11_code
def yX7_isOne : MethodName := ⟨RX7, "isOne", "(I)Z"⟩
abbrev cX7_isText : ByteArray := prog_9_method_12_code
def yX7_isText : MethodName := ⟨RX7, "isText", "(I)Z"⟩
abbrev cX7_drawn : ByteArray := prog_9_method_13_code
def yX7_drawn : MethodName := ⟨RX7, "drawn", "()I"⟩
abbrev cX7_comes : ByteArray := prog_9_method_14_code
def yX7_comes : MethodName := ⟨RX7, "comes", "(IIII)V"⟩
abbrev cX7_day : ByteArray := prog_9_method_15_code
def yX7_day : MethodName := ⟨RX7, "day", "(IIII)I"⟩
abbrev cX7_priceBy : ByteArray := prog_9_method_16_code
def yX7_priceBy : MethodName := ⟨RX7, "priceBy", "(II)I"⟩
abbrev cX7_valueOf : ByteArray := prog_9_method_17_code
def yX7_valueOf : MethodName := ⟨RX7, "valueOf", "(I)I"⟩
abbrev cX7_worth : ByteArray := prog_9_method_18_code
def yX7_worth : MethodName := ⟨RX7, "worth", "(I)I"⟩
abbrev cX7_offerOf : ByteArray := prog_9_method_19_code
def yX7_offerOf : MethodName := ⟨RX7, "offerOf", "(II)I"⟩
abbrev cX7_told : ByteArray := prog_9_method_20_code
def yX7_told : MethodName := ⟨RX7, "told", "(II)I"⟩
abbrev cX7_isOf : ByteArray := prog_9_method_21_code
def yX7_isOf : MethodName := ⟨RX7, "isOf", "(II)Z"⟩
abbrev cX7_as : ByteArray := prog_9_method_22_code
def yX7_as : MethodName := ⟨RX7, "as", "(II)I"⟩
abbrev cX7_turns : ByteArray := prog_9_method_23_code
def yX7_turns : MethodName := ⟨RX7, "turns", "(II)I"⟩
abbrev cX7_set : ByteArray := prog_9_method_24_code
def yX7_set : MethodName := ⟨RX7, "set", "(III)I"⟩
abbrev cX7_daysOf : ByteArray := prog_9_method_25_code
def yX7_daysOf : MethodName := ⟨RX7, "daysOf", "(I)I"⟩
abbrev cX7_manyIn : ByteArray := prog_9_method_26_code
def yX7_manyIn : MethodName := ⟨RX7, "manyIn", "(I)I"⟩
abbrev cX7_one : ByteArray := prog_9_method_27_code
def yX7_one : MethodName := ⟨RX7, "one", "(II)I"⟩
abbrev cX7_gives : ByteArray := prog_9_method_28_code
def yX7_gives : MethodName := ⟨RX7, "gives", "(III)I"⟩
abbrev cX7_offer : ByteArray := prog_9_method_29_code
def yX7_offer : MethodName := ⟨RX7, "offer", "(II)I"⟩
abbrev cX7_deal : ByteArray := prog_9_method_30_code
def yX7_deal : MethodName := ⟨RX7, "deal", "(I)I"⟩
abbrev cX7_seed : ByteArray := prog_9_method_31_code
def yX7_seed : MethodName := ⟨RX7, "seed", "(I)I"⟩
abbrev cX7_sells : ByteArray := prog_9_method_32_code
def yX7_sells : MethodName := ⟨RX7, "sells", "(III)V"⟩
abbrev cX7_sale : ByteArray := prog_9_method_33_code
def yX7_sale : MethodName := ⟨RX7, "sale", "(III)I"⟩
abbrev cX7_bidder : ByteArray := prog_9_method_34_code
def yX7_bidder : MethodName := ⟨RX7, "bidder", "(I)I"⟩
abbrev cX7_wears : ByteArray := prog_9_method_35_code
def yX7_wears : MethodName := ⟨RX7, "wears", "(II)I"⟩
abbrev cX7_goesOn : ByteArray := prog_9_method_36_code
def yX7_goesOn : MethodName := ⟨RX7, "goesOn", "()V"⟩
abbrev cX7_markets : ByteArray := prog_9_method_37_code
def yX7_markets : MethodName := ⟨RX7, "markets", "(I)I"⟩
abbrev cX7_allCoins : ByteArray := prog_9_method_38_code
def yX7_allCoins : MethodName := ⟨RX7, "allCoins", "()I"⟩
abbrev cX7_ledger : ByteArray := prog_9_method_39_code
def yX7_ledger : MethodName := ⟨RX7, "ledger", "(I)I"⟩
abbrev cX7_manyWith : ByteArray := prog_9_method_40_code
def yX7_manyWith : MethodName := ⟨RX7, "manyWith", "(II)I"⟩
abbrev cX7_trueOf : ByteArray := prog_9_method_41_code
def yX7_trueOf : MethodName := ⟨RX7, "trueOf", "(I)I"⟩
abbrev cX7_isTrue : ByteArray := prog_9_method_42_code
def yX7_isTrue : MethodName := ⟨RX7, "isTrue", "(I)I"⟩
abbrev cX7_falseMany : ByteArray := prog_9_method_43_code
def yX7_falseMany : MethodName := ⟨RX7, "falseMany", "()I"⟩
abbrev cX7_joy : ByteArray := prog_9_method_44_code
def yX7_joy : MethodName := ⟨RX7, "joy", "(II)I"⟩
abbrev cX7_valuesOf : ByteArray := prog_9_method_45_code
def yX7_valuesOf : MethodName := ⟨RX7, "valuesOf", "(I)I"⟩
abbrev cX7_joyOf : ByteArray := prog_9_method_46_code
def yX7_joyOf : MethodName := ⟨RX7, "joyOf", "(II)I"⟩
abbrev cX7_areApart : ByteArray := prog_9_method_47_code
def yX7_areApart : MethodName := ⟨RX7, "areApart", "(I)Z"⟩
abbrev cX7_fill : ByteArray := prog_9_method_48_code
def yX7_fill : MethodName := ⟨RX7, "fill", "(II)I"⟩
abbrev cX7_laysBy : ByteArray := prog_9_method_49_code
def yX7_laysBy : MethodName := ⟨RX7, "laysBy", "()V"⟩
abbrev cX7_laysBack : ByteArray := prog_9_method_50_code
def yX7_laysBack : MethodName := ⟨RX7, "laysBack", "()V"⟩
abbrev cX7_goesOnMany : ByteArray := prog_9_method_51_code
def yX7_goesOnMany : MethodName := ⟨RX7, "goesOnMany", "(I)V"⟩
abbrev cX7_emptied : ByteArray := prog_9_method_52_code
def yX7_emptied : MethodName := ⟨RX7, "emptied", "(I)I"⟩
abbrev cX7_behind : ByteArray := prog_9_method_53_code
def yX7_behind : MethodName := ⟨RX7, "behind", "(III)I"⟩
abbrev cX7_richestNow : ByteArray := prog_9_method_54_code
def yX7_richestNow : MethodName := ⟨RX7, "richestNow", "()I"⟩
abbrev cX7_richest : ByteArray := prog_9_method_55_code
def yX7_richest : MethodName := ⟨RX7, "richest", "(II)I"⟩
abbrev cX7_allValues : ByteArray := prog_9_method_56_code
def yX7_allValues : MethodName := ⟨RX7, "allValues", "()I"⟩
abbrev cX7_allWear : ByteArray := prog_9_method_57_code
def yX7_allWear : MethodName := ⟨RX7, "allWear", "()I"⟩
abbrev cX7_worn : ByteArray := prog_9_method_58_code
def yX7_worn : MethodName := ⟨RX7, "worn", "()I"⟩
abbrev cX7_dye : ByteArray := prog_9_method_59_code
def yX7_dye : MethodName := ⟨RX7, "dye", "(III)I"⟩
abbrev cX7_mends : ByteArray := prog_9_method_60_code
def yX7_mends : MethodName := ⟨RX7, "mends", "(II)I"⟩
abbrev cX7_fine : ByteArray := prog_9_method_61_code
def yX7_fine : MethodName := ⟨RX7, "fine", "(I)I"⟩
abbrev cX7_feed : ByteArray := prog_9_method_62_code
def yX7_feed : MethodName := ⟨RX7, "feed", "(III)I"⟩
abbrev cX7_trim : ByteArray := prog_9_method_63_code
def yX7_trim : MethodName := ⟨RX7, "trim", "(I)I"⟩
abbrev cX7_isLetter : ByteArray := prog_9_method_64_code
def yX7_isLetter : MethodName := ⟨RX7, "isLetter", "(I)Z"⟩
abbrev cX7_isDigit : ByteArray := prog_9_method_65_code
def yX7_isDigit : MethodName := ⟨RX7, "isDigit", "(I)Z"⟩
abbrev cX7_nextToken : ByteArray := prog_9_method_66_code
def yX7_nextToken : MethodName := ⟨RX7, "nextToken", "()V"⟩
abbrev cX7_isSign : ByteArray := prog_9_method_67_code
def yX7_isSign : MethodName := ⟨RX7, "isSign", "(I)Z"⟩
abbrev cX7_isWordAt : ByteArray := prog_9_method_68_code
def yX7_isWordAt : MethodName := ⟨RX7, "isWordAt", "(IIII)Z"⟩
abbrev cX7_isLong : ByteArray := prog_9_method_69_code
def yX7_isLong : MethodName := ⟨RX7, "isLong", "(IIIIII)Z"⟩
abbrev cX7_key : ByteArray := prog_9_method_70_code
def yX7_key : MethodName := ⟨RX7, "key", "()I"⟩
abbrev cX7_isName : ByteArray := prog_9_method_71_code
def yX7_isName : MethodName := ⟨RX7, "isName", "(II)Z"⟩
abbrev cX7_step : ByteArray := prog_9_method_72_code
def yX7_step : MethodName := ⟨RX7, "step", "(II)V"⟩
abbrev cX7_either : ByteArray := prog_9_method_73_code
def yX7_either : MethodName := ⟨RX7, "either", "(I)Z"⟩
abbrev cX7_both : ByteArray := prog_9_method_74_code
def yX7_both : MethodName := ⟨RX7, "both", "(I)Z"⟩
abbrev cX7_test : ByteArray := prog_9_method_75_code
def yX7_test : MethodName := ⟨RX7, "test", "(I)Z"⟩
abbrev cX7_sum : ByteArray := prog_9_method_76_code
def yX7_sum : MethodName := ⟨RX7, "sum", "(I)Z"⟩
abbrev cX7_term : ByteArray := prog_9_method_77_code
def yX7_term : MethodName := ⟨RX7, "term", "(I)Z"⟩
abbrev cX7_part0 : ByteArray := prog_9_method_78_code
def yX7_part0 : MethodName := ⟨RX7, "part0", "(I)Z"⟩
abbrev cX7_parse : ByteArray := prog_9_method_79_code
def yX7_parse : MethodName := ⟨RX7, "parse", "()I"⟩
abbrev cX7_text : ByteArray := prog_9_method_80_code
def yX7_text : MethodName := ⟨RX7, "text", "()I"⟩
abbrev cX7_textTold : ByteArray := prog_9_method_81_code
def yX7_textTold : MethodName := ⟨RX7, "textTold", "(II)I"⟩
abbrev cX7_counts : ByteArray := prog_9_method_82_code
def yX7_counts : MethodName := ⟨RX7, "counts", "(I)I"⟩
abbrev cX7_why : ByteArray := prog_9_method_83_code
def yX7_why : MethodName := ⟨RX7, "why", "(I)I"⟩
abbrev cX7_joined : ByteArray := prog_9_method_84_code
def yX7_joined : MethodName := ⟨RX7, "joined", "(III)I"⟩
abbrev cX7_worked : ByteArray := prog_9_method_85_code
def yX7_worked : MethodName := ⟨RX7, "worked", "(I)I"⟩
abbrev cX7_isSheet : ByteArray := prog_9_method_86_code
def yX7_isSheet : MethodName := ⟨RX7, "isSheet", "(I)Z"⟩
abbrev cX7_sheet : ByteArray := prog_9_method_87_code
def yX7_sheet : MethodName := ⟨RX7, "sheet", "(III)I"⟩
abbrev cX7_mark : ByteArray := prog_9_method_88_code
def yX7_mark : MethodName := ⟨RX7, "mark", "(III)I"⟩
abbrev cX7_pour : ByteArray := prog_9_method_89_code
def yX7_pour : MethodName := ⟨RX7, "pour", "(I)I"⟩
abbrev cX7_reads : ByteArray := prog_9_method_90_code
def yX7_reads : MethodName := ⟨RX7, "reads", "(I)I"⟩
abbrev cX7_toldBy : ByteArray := prog_9_method_91_code
def yX7_toldBy : MethodName := ⟨RX7, "toldBy", "(II)I"⟩
abbrev cX7_copy : ByteArray := prog_9_method_92_code
def yX7_copy : MethodName := ⟨RX7, "copy", "(IIIII)I"⟩
abbrev cX7_isSlot : ByteArray := prog_9_method_93_code
def yX7_isSlot : MethodName := ⟨RX7, "isSlot", "(I)Z"⟩
abbrev cX7_lay : ByteArray := prog_9_method_94_code
def yX7_lay : MethodName := ⟨RX7, "lay", "(III)I"⟩
abbrev cX7_ask : ByteArray := prog_9_method_95_code
def yX7_ask : MethodName := ⟨RX7, "ask", "(II)I"⟩
abbrev cX7_item : ByteArray := prog_9_method_96_code
def yX7_item : MethodName := ⟨RX7, "item", "(II)I"⟩
abbrev cX7_rest : ByteArray := prog_9_method_97_code
def yX7_rest : MethodName := ⟨RX7, "rest", "(II)I"⟩
abbrev cX7_tell : ByteArray := prog_9_method_98_code
def yX7_tell : MethodName := ⟨RX7, "tell", "(I)I"⟩
abbrev cX7_setAside : ByteArray := prog_9_method_99_code
def yX7_setAside : MethodName := ⟨RX7, "setAside", "([I[I)V"⟩
abbrev cX7_check : ByteArray := prog_9_method_100_code
def yX7_check : MethodName := ⟨RX7, "check", "(I)I"⟩
abbrev cX7_keep : ByteArray := prog_9_method_101_code
def yX7_keep : MethodName := ⟨RX7, "keep", "()I"⟩
abbrev cX7_back : ByteArray := prog_9_method_102_code
def yX7_back : MethodName := ⟨RX7, "back", "()I"⟩
abbrev cX7_count : ByteArray := prog_9_method_103_code
def yX7_count : MethodName := ⟨RX7, "count", "(I)I"⟩
def RJ11 : String := "java/lang/Character"
def TJ11 : u_T := fun k => match k with
  | _ => ("", "", "", false)
def tyJ11 : Nat → FieldType := fun k => match k with
  | _ => .int
abbrev wsJ110 : List Cond := u_ws RJ11 TJ11 0
theorem nmJ11 : ∀ a, a < 0 → ∀ b, b < 0 → a ≠ b → (TJ11 a).2.1 ≠ (TJ11 b).2.1 := by decide +kernel
theorem tyJ11_ok : ∀ k, k < 0 → parseFieldDescriptor (TJ11 k).2.2.1 = some (tyJ11 k) := by decide +kernel
abbrev cJ11_isValidCodePoint_9a6ad : ByteArray := prog_10_method_11_code
def yJ11_isValidCodePoint_9a6ad : MethodName := ⟨RJ11, "isValidCodePoint", "(I)Z"⟩
abbrev cJ11_highSurrogate_5068e : ByteArray := prog_10_method_28_code
def yJ11_highSurrogate_5068e : MethodName := ⟨RJ11, "highSurrogate", "(I)C"⟩
abbrev cJ11_lowSurrogate_5068e : ByteArray := prog_10_method_29_code
def yJ11_lowSurrogate_5068e : MethodName := ⟨RJ11, "lowSurrogate", "(I)C"⟩
def RJ6 : String := "java/lang/Integer"
def TJ6 : u_T := fun k => match k with
  | _ => ("", "", "", false)
def tyJ6 : Nat → FieldType := fun k => match k with
  | _ => .int
abbrev wsJ60 : List Cond := u_ws RJ6 TJ6 0
theorem nmJ6 : ∀ a, a < 0 → ∀ b, b < 0 → a ≠ b → (TJ6 a).2.1 ≠ (TJ6 b).2.1 := by decide +kernel
theorem tyJ6_ok : ∀ k, k < 0 → parseFieldDescriptor (TJ6 k).2.2.1 = some (tyJ6 k) := by decide +kernel
abbrev cJ6_bitCount_0f7a4 : ByteArray := prog_11_method_49_code
def yJ6_bitCount_0f7a4 : MethodName := ⟨RJ6, "bitCount", "(I)I"⟩
def RJ9 : String := "java/lang/Math"
def TJ9 : u_T := fun k => match k with
  | _ => ("", "", "", false)
def tyJ9 : Nat → FieldType := fun k => match k with
  | _ => .int
abbrev wsJ90 : List Cond := u_ws RJ9 TJ9 0
theorem nmJ9 : ∀ a, a < 0 → ∀ b, b < 0 → a ≠ b → (TJ9 a).2.1 ≠ (TJ9 b).2.1 := by decide +kernel
theorem tyJ9_ok : ∀ k, k < 0 → parseFieldDescriptor (TJ9 k).2.2.1 = some (tyJ9 k) := by decide +kernel
abbrev cJ9_abs_0f7a4 : ByteArray := prog_12_method_59_code
def yJ9_abs_0f7a4 : MethodName := ⟨RJ9, "abs", "(I)I"⟩
abbrev cJ9_max_7cf53 : ByteArray := prog_12_method_65_code
def yJ9_max_7cf53 : MethodName := ⟨RJ9, "max", "(II)I"⟩
abbrev cJ9_min_7cf53 : ByteArray := prog_12_method_69_code
def yJ9_min_7cf53 : MethodName := ⟨RJ9, "min", "(II)I"⟩
def RJ0 : String := "java/lang/String"
def TJ0 : u_T := fun k => match k with
  | _ => ("", "", "", false)
def tyJ0 : Nat → FieldType := fun k => match k with
  | _ => .int
abbrev wsJ00 : List Cond := u_ws RJ0 TJ0 0
theorem nmJ0 : ∀ a, a < 0 → ∀ b, b < 0 → a ≠ b → (TJ0 a).2.1 ≠ (TJ0 b).2.1 := by decide +kernel
theorem tyJ0_ok : ∀ k, k < 0 → parseFieldDescriptor (TJ0 k).2.2.1 = some (tyJ0 k) := by decide +kernel
abbrev cJ0_length_8abf5 : ByteArray := prog_13_method_54_code
def yJ0_length_8abf5 : MethodName := ⟨RJ0, "length", "()I"⟩
abbrev cJ0_charAt_5068e : ByteArray := prog_13_method_56_code
def yJ0_charAt_5068e : MethodName := ⟨RJ0, "charAt", "(I)C"⟩
abbrev cJ0_indexOf_0f7a4 : ByteArray := prog_13_method_79_code
def yJ0_indexOf_0f7a4 : MethodName := ⟨RJ0, "indexOf", "(I)I"⟩
abbrev cJ0_indexOf_7cf53 : ByteArray := prog_13_method_80_code
def yJ0_indexOf_7cf53 : MethodName := ⟨RJ0, "indexOf", "(II)I"⟩
abbrev cJ0_coder_7d493 : ByteArray := prog_13_method_152_code
def yJ0_coder_7d493 : MethodName := ⟨RJ0, "coder", "()B"⟩
abbrev cJ0_isLatin1_aae02 : ByteArray := prog_13_method_154_code
def yJ0_isLatin1_aae02 : MethodName := ⟨RJ0, "isLatin1", "()Z"⟩
abbrev cJ0_checkIndex_df160 : ByteArray := prog_13_method_155_code
def yJ0_checkIndex_df160 : MethodName := ⟨RJ0, "checkIndex", "(II)V"⟩
abbrev cJ0_checkBoundsBeginEnd_23922 : ByteArray := prog_13_method_158_code
def yJ0_checkBoundsBeginEnd_23922 : MethodName := ⟨RJ0, "checkBoundsBeginEnd", "(III)V"⟩
def RJ1 : String := "java/lang/StringLatin1"
def TJ1 : u_T := fun k => match k with
  | _ => ("", "", "", false)
def tyJ1 : Nat → FieldType := fun k => match k with
  | _ => .int
abbrev wsJ10 : List Cond := u_ws RJ1 TJ1 0
theorem nmJ1 : ∀ a, a < 0 → ∀ b, b < 0 → a ≠ b → (TJ1 a).2.1 ≠ (TJ1 b).2.1 := by decide +kernel
theorem tyJ1_ok : ∀ k, k < 0 → parseFieldDescriptor (TJ1 k).2.2.1 = some (tyJ1 k) := by decide +kernel
abbrev cJ1_charAt_3b067 : ByteArray := prog_14_method_2_code
def yJ1_charAt_3b067 : MethodName := ⟨RJ1, "charAt", "([BI)C"⟩
abbrev cJ1_canEncode_9a6ad : ByteArray := prog_14_method_4_code
def yJ1_canEncode_9a6ad : MethodName := ⟨RJ1, "canEncode", "(I)Z"⟩
abbrev cJ1_indexOf_4cfef : ByteArray := prog_14_method_22_code
def yJ1_indexOf_4cfef : MethodName := ⟨RJ1, "indexOf", "([BIII)I"⟩
abbrev cJ1_indexOfChar_4cfef : ByteArray := prog_14_method_23_code
def yJ1_indexOfChar_4cfef : MethodName := ⟨RJ1, "indexOfChar", "([BIII)I"⟩
def RJ2 : String := "java/lang/StringUTF16"
def TJ2 : u_T := fun k => match k with
  | _ => ("", "", "", false)
def tyJ2 : Nat → FieldType := fun k => match k with
  | _ => .int
abbrev wsJ20 : List Cond := u_ws RJ2 TJ2 0
theorem nmJ2 : ∀ a, a < 0 → ∀ b, b < 0 → a ≠ b → (TJ2 a).2.1 ≠ (TJ2 b).2.1 := by decide +kernel
theorem tyJ2_ok : ∀ k, k < 0 → parseFieldDescriptor (TJ2 k).2.2.1 = some (tyJ2 k) := by decide +kernel
abbrev cJ2_getChar_3b067 : ByteArray := prog_15_method_5_code
def yJ2_getChar_3b067 : MethodName := ⟨RJ2, "getChar", "([BI)C"⟩
abbrev cJ2_length_9d52b : ByteArray := prog_15_method_6_code
def yJ2_length_9d52b : MethodName := ⟨RJ2, "length", "([B)I"⟩
abbrev cJ2_indexOf_4cfef : ByteArray := prog_15_method_40_code
def yJ2_indexOf_4cfef : MethodName := ⟨RJ2, "indexOf", "([BIII)I"⟩
abbrev cJ2_indexOfChar_4cfef : ByteArray := prog_15_method_47_code
def yJ2_indexOfChar_4cfef : MethodName := ⟨RJ2, "indexOfChar", "([BIII)I"⟩
abbrev cJ2_indexOfCharUnsafe_4cfef : ByteArray := prog_15_method_48_code
def yJ2_indexOfCharUnsafe_4cfef : MethodName := ⟨RJ2, "indexOfCharUnsafe", "([BIII)I"⟩
abbrev cJ2_indexOfSupplementary_4cfef : ByteArray := prog_15_method_49_code
def yJ2_indexOfSupplementary_4cfef : MethodName := ⟨RJ2, "indexOfSupplementary", "([BIII)I"⟩
abbrev cJ2_charAt_3b067 : ByteArray := prog_15_method_83_code
def yJ2_charAt_3b067 : MethodName := ⟨RJ2, "charAt", "([BI)C"⟩
abbrev cJ2_checkIndex_2214a : ByteArray := prog_15_method_91_code
def yJ2_checkIndex_2214a : MethodName := ⟨RJ2, "checkIndex", "(I[B)V"⟩
abbrev cJ2_checkBoundsBeginEnd_d044e : ByteArray := prog_15_method_93_code
def yJ2_checkBoundsBeginEnd_d044e : MethodName := ⟨RJ2, "checkBoundsBeginEnd", "(II[B)V"⟩
def RJ10 : String := "java/lang/System"
def TJ10 : u_T := fun k => match k with
  | _ => ("", "", "", false)
def tyJ10 : Nat → FieldType := fun k => match k with
  | _ => .int
abbrev wsJ100 : List Cond := u_ws RJ10 TJ10 0
theorem nmJ10 : ∀ a, a < 0 → ∀ b, b < 0 → a ≠ b → (TJ10 a).2.1 ≠ (TJ10 b).2.1 := by decide +kernel
theorem tyJ10_ok : ∀ k, k < 0 → parseFieldDescriptor (TJ10 k).2.2.1 = some (tyJ10 k) := by decide +kernel
def RJ3 : String := "jdk/internal/util/Preconditions"
def TJ3 : u_T := fun k => match k with
  | _ => ("", "", "", false)
def tyJ3 : Nat → FieldType := fun k => match k with
  | _ => .int
abbrev wsJ30 : List Cond := u_ws RJ3 TJ3 0
theorem nmJ3 : ∀ a, a < 0 → ∀ b, b < 0 → a ≠ b → (TJ3 a).2.1 ≠ (TJ3 b).2.1 := by decide +kernel
theorem tyJ3_ok : ∀ k, k < 0 → parseFieldDescriptor (TJ3 k).2.2.1 = some (tyJ3 k) := by decide +kernel
abbrev cJ3_checkIndex_8e157 : ByteArray := prog_17_method_11_code
def yJ3_checkIndex_8e157 : MethodName := ⟨RJ3, "checkIndex", "(IILjava/util/function/BiFunction;)I"⟩
abbrev cJ3_checkFromToIndex_8c36e : ByteArray := prog_17_method_12_code
def yJ3_checkFromToIndex_8c36e : MethodName := ⟨RJ3, "checkFromToIndex", "(IIILjava/util/function/BiFunction;)I"⟩
def RL : String := "DayMarketLaw"
abbrev cL_law : ByteArray := code
def yL_law : MethodName := ⟨RL, "law", "([I)Z"⟩
abbrev vwCl : List vw_C := [(RX0, TX0, 5), (RX1, TX1, 3), (RX2, TX2, 10), (RX3, TX3, 3), (RX4, TX4, 5), (RX5, TX5, 16), (RX6, TX6, 12), (RX7, TX7, 32)]
end
section
theorem dX0_init_0 : decode cX0_init 0 = .ok (.aload_n 0, 1) := by decide +kernel
theorem dX0_init_1 : decode cX0_init 1 = .ok (.invokespecial 3, 3) := by decide +kernel
theorem dX0_init_4 : decode cX0_init 4 = .ok (.aload_n 0, 1) := by decide +kernel
theorem dX0_init_5 : decode cX0_init 5 = .ok (.bipush 14, 2) := by decide +kernel
theorem dX0_init_7 : decode cX0_init 7 = .ok (.newarray .int, 2) := by decide +kernel
theorem dX0_init_9 : decode cX0_init 9 = .ok (.putfield 9, 3) := by decide +kernel
theorem dX0_init_12 : decode cX0_init 12 = .ok (.aload_n 0, 1) := by decide +kernel
theorem dX0_init_13 : decode cX0_init 13 = .ok (.bipush 14, 2) := by decide +kernel
theorem dX0_init_15 : decode cX0_init 15 = .ok (.newarray .int, 2) := by decide +kernel
theorem dX0_init_17 : decode cX0_init 17 = .ok (.putfield 15, 3) := by decide +kernel
theorem dX0_init_20 : decode cX0_init 20 = .ok (.aload_n 0, 1) := by decide +kernel
theorem dX0_init_21 : decode cX0_init 21 = .ok (.bipush 14, 2) := by decide +kernel
theorem dX0_init_23 : decode cX0_init 23 = .ok (.newarray .int, 2) := by decide +kernel
theorem dX0_init_25 : decode cX0_init 25 = .ok (.putfield 18, 3) := by decide +kernel
theorem dX0_init_28 : decode cX0_init 28 = .ok (.aload_n 0, 1) := by decide +kernel
theorem dX0_init_29 : decode cX0_init 29 = .ok (.bipush 14, 2) := by decide +kernel
theorem dX0_init_31 : decode cX0_init 31 = .ok (.bipush 96, 2) := by decide +kernel
theorem dX0_init_33 : decode cX0_init 33 = .ok (.multianewarray 21 2, 4) := by decide +kernel
theorem dX0_init_37 : decode cX0_init 37 = .ok (.putfield 23, 3) := by decide +kernel
theorem dX0_init_40 : decode cX0_init 40 = .ok (.aload_n 0, 1) := by decide +kernel
theorem dX0_init_41 : decode cX0_init 41 = .ok (.bipush 96, 2) := by decide +kernel
theorem dX0_init_43 : decode cX0_init 43 = .ok (.newarray .int, 2) := by decide +kernel
theorem dX0_init_45 : decode cX0_init 45 = .ok (.putfield 26, 3) := by decide +kernel
theorem dX0_init_48 : decode cX0_init 48 = .ok (.return_, 1) := by decide +kernel
theorem dX0_write_0 : decode cX0_write 0 = .ok (.aload_n 0, 1) := by decide +kernel
theorem dX0_write_1 : decode cX0_write 1 = .ok (.getfield 9, 3) := by decide +kernel
theorem dX0_write_4 : decode cX0_write 4 = .ok (.iload_n 1, 1) := by decide +kernel
theorem dX0_write_5 : decode cX0_write 5 = .ok (.aload_n 2, 1) := by decide +kernel
theorem dX0_write_6 : decode cX0_write 6 = .ok (.getfield 29, 3) := by decide +kernel
theorem dX0_write_9 : decode cX0_write 9 = .ok (.iastore, 1) := by decide +kernel
theorem dX0_write_10 : decode cX0_write 10 = .ok (.aload_n 0, 1) := by decide +kernel
theorem dX0_write_11 : decode cX0_write 11 = .ok (.getfield 15, 3) := by decide +kernel
theorem dX0_write_14 : decode cX0_write 14 = .ok (.iload_n 1, 1) := by decide +kernel
theorem dX0_write_15 : decode cX0_write 15 = .ok (.aload_n 2, 1) := by decide +kernel
theorem dX0_write_16 : decode cX0_write 16 = .ok (.getfield 34, 3) := by decide +kernel
theorem dX0_write_19 : decode cX0_write 19 = .ok (.iastore, 1) := by decide +kernel
theorem dX0_write_20 : decode cX0_write 20 = .ok (.aload_n 0, 1) := by decide +kernel
theorem dX0_write_21 : decode cX0_write 21 = .ok (.getfield 18, 3) := by decide +kernel
theorem dX0_write_24 : decode cX0_write 24 = .ok (.iload_n 1, 1) := by decide +kernel
theorem dX0_write_25 : decode cX0_write 25 = .ok (.aload_n 2, 1) := by decide +kernel
theorem dX0_write_26 : decode cX0_write 26 = .ok (.getfield 36, 3) := by decide +kernel
theorem dX0_write_29 : decode cX0_write 29 = .ok (.iastore, 1) := by decide +kernel
theorem dX0_write_30 : decode cX0_write 30 = .ok (.aload_n 2, 1) := by decide +kernel
theorem dX0_write_31 : decode cX0_write 31 = .ok (.getfield 39, 3) := by decide +kernel
theorem dX0_write_34 : decode cX0_write 34 = .ok (.iconst 0, 1) := by decide +kernel
theorem dX0_write_35 : decode cX0_write 35 = .ok (.aload_n 0, 1) := by decide +kernel
theorem dX0_write_36 : decode cX0_write 36 = .ok (.getfield 23, 3) := by decide +kernel
theorem dX0_write_39 : decode cX0_write 39 = .ok (.iload_n 1, 1) := by decide +kernel
theorem dX0_write_40 : decode cX0_write 40 = .ok (.aaload, 1) := by decide +kernel
theorem dX0_write_41 : decode cX0_write 41 = .ok (.iconst 0, 1) := by decide +kernel
theorem dX0_write_42 : decode cX0_write 42 = .ok (.aload_n 2, 1) := by decide +kernel
theorem dX0_write_43 : decode cX0_write 43 = .ok (.getfield 36, 3) := by decide +kernel
theorem dX0_write_46 : decode cX0_write 46 = .ok (.invokestatic 41, 3) := by decide +kernel
theorem dX0_write_49 : decode cX0_write 49 = .ok (.return_, 1) := by decide +kernel
theorem dX0_workOut_0 : decode cX0_workOut 0 = .ok (.aload_n 0, 1) := by decide +kernel
theorem dX0_workOut_1 : decode cX0_workOut 1 = .ok (.getfield 23, 3) := by decide +kernel
theorem dX0_workOut_4 : decode cX0_workOut 4 = .ok (.iload_n 1, 1) := by decide +kernel
theorem dX0_workOut_5 : decode cX0_workOut 5 = .ok (.aaload, 1) := by decide +kernel
theorem dX0_workOut_6 : decode cX0_workOut 6 = .ok (.astore 5, 2) := by decide +kernel
theorem dX0_workOut_8 : decode cX0_workOut 8 = .ok (.iconst 0, 1) := by decide +kernel
theorem dX0_workOut_9 : decode cX0_workOut 9 = .ok (.istore 6, 2) := by decide +kernel
theorem dX0_workOut_11 : decode cX0_workOut 11 = .ok (.iconst 0, 1) := by decide +kernel
theorem dX0_workOut_12 : decode cX0_workOut 12 = .ok (.istore 7, 2) := by decide +kernel
theorem dX0_workOut_14 : decode cX0_workOut 14 = .ok (.iload 7, 2) := by decide +kernel
theorem dX0_workOut_16 : decode cX0_workOut 16 = .ok (.aload_n 0, 1) := by decide +kernel
theorem dX0_workOut_17 : decode cX0_workOut 17 = .ok (.getfield 18, 3) := by decide +kernel
theorem dX0_workOut_20 : decode cX0_workOut 20 = .ok (.iload_n 1, 1) := by decide +kernel
theorem dX0_workOut_21 : decode cX0_workOut 21 = .ok (.iaload, 1) := by decide +kernel
theorem dX0_workOut_22 : decode cX0_workOut 22 = .ok (.if_icmp .ge 134, 3) := by decide +kernel
theorem dX0_workOut_25 : decode cX0_workOut 25 = .ok (.aload 5, 2) := by decide +kernel
theorem dX0_workOut_27 : decode cX0_workOut 27 = .ok (.iload 7, 2) := by decide +kernel
theorem dX0_workOut_29 : decode cX0_workOut 29 = .ok (.iaload, 1) := by decide +kernel
theorem dX0_workOut_30 : decode cX0_workOut 30 = .ok (.istore 8, 2) := by decide +kernel
theorem dX0_workOut_32 : decode cX0_workOut 32 = .ok (.iload 8, 2) := by decide +kernel
theorem dX0_workOut_34 : decode cX0_workOut 34 = .ok (.bipush (-3), 2) := by decide +kernel
theorem dX0_workOut_36 : decode cX0_workOut 36 = .ok (.if_icmp .lt 32, 3) := by decide +kernel
theorem dX0_workOut_39 : decode cX0_workOut 39 = .ok (.iload 6, 2) := by decide +kernel
theorem dX0_workOut_41 : decode cX0_workOut 41 = .ok (.bipush 96, 2) := by decide +kernel
theorem dX0_workOut_43 : decode cX0_workOut 43 = .ok (.if_icmp .ge 107, 3) := by decide +kernel
theorem dX0_workOut_46 : decode cX0_workOut 46 = .ok (.aload_n 0, 1) := by decide +kernel
theorem dX0_workOut_47 : decode cX0_workOut 47 = .ok (.getfield 26, 3) := by decide +kernel
theorem dX0_workOut_50 : decode cX0_workOut 50 = .ok (.iload 6, 2) := by decide +kernel
theorem dX0_workOut_52 : decode cX0_workOut 52 = .ok (.iload 8, 2) := by decide +kernel
theorem dX0_workOut_54 : decode cX0_workOut 54 = .ok (.iload_n 2, 1) := by decide +kernel
theorem dX0_workOut_55 : decode cX0_workOut 55 = .ok (.iload_n 3, 1) := by decide +kernel
theorem dX0_workOut_56 : decode cX0_workOut 56 = .ok (.iload 4, 2) := by decide +kernel
theorem dX0_workOut_58 : decode cX0_workOut 58 = .ok (.invokestatic 47, 3) := by decide +kernel
theorem dX0_workOut_61 : decode cX0_workOut 61 = .ok (.iastore, 1) := by decide +kernel
theorem dX0_workOut_62 : decode cX0_workOut 62 = .ok (.iinc 6 1, 3) := by decide +kernel
theorem dX0_workOut_65 : decode cX0_workOut 65 = .ok (.goto 85, 3) := by decide +kernel
theorem dX0_workOut_68 : decode cX0_workOut 68 = .ok (.iload 8, 2) := by decide +kernel
theorem dX0_workOut_70 : decode cX0_workOut 70 = .ok (.bipush (-33), 2) := by decide +kernel
theorem dX0_workOut_72 : decode cX0_workOut 72 = .ok (.if_icmp .ne 38, 3) := by decide +kernel
theorem dX0_workOut_75 : decode cX0_workOut 75 = .ok (.iload 6, 2) := by decide +kernel
theorem dX0_workOut_77 : decode cX0_workOut 77 = .ok (.iconst 1, 1) := by decide +kernel
theorem dX0_workOut_78 : decode cX0_workOut 78 = .ok (.if_icmp .lt 72, 3) := by decide +kernel
theorem dX0_workOut_81 : decode cX0_workOut 81 = .ok (.aload_n 0, 1) := by decide +kernel
theorem dX0_workOut_82 : decode cX0_workOut 82 = .ok (.getfield 26, 3) := by decide +kernel
theorem dX0_workOut_85 : decode cX0_workOut 85 = .ok (.iload 6, 2) := by decide +kernel
theorem dX0_workOut_87 : decode cX0_workOut 87 = .ok (.iconst 1, 1) := by decide +kernel
theorem dX0_workOut_88 : decode cX0_workOut 88 = .ok (.isub, 1) := by decide +kernel
theorem dX0_workOut_89 : decode cX0_workOut 89 = .ok (.aload_n 0, 1) := by decide +kernel
theorem dX0_workOut_90 : decode cX0_workOut 90 = .ok (.getfield 26, 3) := by decide +kernel
theorem dX0_workOut_93 : decode cX0_workOut 93 = .ok (.iload 6, 2) := by decide +kernel
theorem dX0_workOut_95 : decode cX0_workOut 95 = .ok (.iconst 1, 1) := by decide +kernel
theorem dX0_workOut_96 : decode cX0_workOut 96 = .ok (.isub, 1) := by decide +kernel
theorem dX0_workOut_97 : decode cX0_workOut 97 = .ok (.iaload, 1) := by decide +kernel
theorem dX0_workOut_98 : decode cX0_workOut 98 = .ok (.ifCond .ne 7, 3) := by decide +kernel
theorem dX0_workOut_101 : decode cX0_workOut 101 = .ok (.iconst 1, 1) := by decide +kernel
theorem dX0_workOut_102 : decode cX0_workOut 102 = .ok (.goto 4, 3) := by decide +kernel
theorem dX0_workOut_105 : decode cX0_workOut 105 = .ok (.iconst 0, 1) := by decide +kernel
theorem dX0_workOut_106 : decode cX0_workOut 106 = .ok (.iastore, 1) := by decide +kernel
theorem dX0_workOut_107 : decode cX0_workOut 107 = .ok (.goto 43, 3) := by decide +kernel
theorem dX0_workOut_110 : decode cX0_workOut 110 = .ok (.iload 6, 2) := by decide +kernel
theorem dX0_workOut_112 : decode cX0_workOut 112 = .ok (.iconst 2, 1) := by decide +kernel
theorem dX0_workOut_113 : decode cX0_workOut 113 = .ok (.if_icmp .lt 37, 3) := by decide +kernel
theorem dX0_workOut_116 : decode cX0_workOut 116 = .ok (.iinc 6 (-1), 3) := by decide +kernel
theorem dX0_workOut_119 : decode cX0_workOut 119 = .ok (.aload_n 0, 1) := by decide +kernel
theorem dX0_workOut_120 : decode cX0_workOut 120 = .ok (.getfield 26, 3) := by decide +kernel
theorem dX0_workOut_123 : decode cX0_workOut 123 = .ok (.iload 6, 2) := by decide +kernel
theorem dX0_workOut_125 : decode cX0_workOut 125 = .ok (.iconst 1, 1) := by decide +kernel
theorem dX0_workOut_126 : decode cX0_workOut 126 = .ok (.isub, 1) := by decide +kernel
theorem dX0_workOut_127 : decode cX0_workOut 127 = .ok (.iload 8, 2) := by decide +kernel
theorem dX0_workOut_129 : decode cX0_workOut 129 = .ok (.ineg, 1) := by decide +kernel
theorem dX0_workOut_130 : decode cX0_workOut 130 = .ok (.aload_n 0, 1) := by decide +kernel
theorem dX0_workOut_131 : decode cX0_workOut 131 = .ok (.getfield 26, 3) := by decide +kernel
theorem dX0_workOut_134 : decode cX0_workOut 134 = .ok (.iload 6, 2) := by decide +kernel
theorem dX0_workOut_136 : decode cX0_workOut 136 = .ok (.iconst 1, 1) := by decide +kernel
theorem dX0_workOut_137 : decode cX0_workOut 137 = .ok (.isub, 1) := by decide +kernel
theorem dX0_workOut_138 : decode cX0_workOut 138 = .ok (.iaload, 1) := by decide +kernel
theorem dX0_workOut_139 : decode cX0_workOut 139 = .ok (.aload_n 0, 1) := by decide +kernel
theorem dX0_workOut_140 : decode cX0_workOut 140 = .ok (.getfield 26, 3) := by decide +kernel
theorem dX0_workOut_143 : decode cX0_workOut 143 = .ok (.iload 6, 2) := by decide +kernel
theorem dX0_workOut_145 : decode cX0_workOut 145 = .ok (.iaload, 1) := by decide +kernel
theorem dX0_workOut_146 : decode cX0_workOut 146 = .ok (.invokestatic 51, 3) := by decide +kernel
theorem dX0_workOut_149 : decode cX0_workOut 149 = .ok (.iastore, 1) := by decide +kernel
theorem dX0_workOut_150 : decode cX0_workOut 150 = .ok (.iinc 7 1, 3) := by decide +kernel
theorem dX0_workOut_153 : decode cX0_workOut 153 = .ok (.goto (-139), 3) := by decide +kernel
theorem dX0_workOut_156 : decode cX0_workOut 156 = .ok (.aload_n 0, 1) := by decide +kernel
theorem dX0_workOut_157 : decode cX0_workOut 157 = .ok (.getfield 26, 3) := by decide +kernel
theorem dX0_workOut_160 : decode cX0_workOut 160 = .ok (.iconst 0, 1) := by decide +kernel
theorem dX0_workOut_161 : decode cX0_workOut 161 = .ok (.iaload, 1) := by decide +kernel
theorem dX0_workOut_162 : decode cX0_workOut 162 = .ok (.ireturn, 1) := by decide +kernel
theorem dX0_leaf_0 : decode cX0_leaf 0 = .ok (.iload_n 0, 1) := by decide +kernel
theorem dX0_leaf_1 : decode cX0_leaf 1 = .ok (.tableswitch 33 (-3) (-1) #[31, 29, 27], 27) := by decide +kernel
theorem dX0_leaf_28 : decode cX0_leaf 28 = .ok (.iload_n 1, 1) := by decide +kernel
theorem dX0_leaf_29 : decode cX0_leaf 29 = .ok (.ireturn, 1) := by decide +kernel
theorem dX0_leaf_30 : decode cX0_leaf 30 = .ok (.iload_n 2, 1) := by decide +kernel
theorem dX0_leaf_31 : decode cX0_leaf 31 = .ok (.ireturn, 1) := by decide +kernel
theorem dX0_leaf_32 : decode cX0_leaf 32 = .ok (.iload_n 3, 1) := by decide +kernel
theorem dX0_leaf_33 : decode cX0_leaf 33 = .ok (.ireturn, 1) := by decide +kernel
theorem dX0_leaf_34 : decode cX0_leaf 34 = .ok (.iload_n 0, 1) := by decide +kernel
theorem dX0_leaf_35 : decode cX0_leaf 35 = .ok (.ireturn, 1) := by decide +kernel
theorem dX0_join_0 : decode cX0_join 0 = .ok (.iload_n 0, 1) := by decide +kernel
theorem dX0_join_1 : decode cX0_join 1 = .ok (.tableswitch 186 38 62 #[172, 186, 186, 186, 123, 115, 186, 119, 186, 127, 186, 186, 186, 186, 186, 186, 186, 186, 186, 186, 186, 186, 139, 150, 161], 115) := by decide +kernel
theorem dX0_join_116 : decode cX0_join 116 = .ok (.iload_n 1, 1) := by decide +kernel
theorem dX0_join_117 : decode cX0_join 117 = .ok (.iload_n 2, 1) := by decide +kernel
theorem dX0_join_118 : decode cX0_join 118 = .ok (.iadd, 1) := by decide +kernel
theorem dX0_join_119 : decode cX0_join 119 = .ok (.ireturn, 1) := by decide +kernel
theorem dX0_join_120 : decode cX0_join 120 = .ok (.iload_n 1, 1) := by decide +kernel
theorem dX0_join_121 : decode cX0_join 121 = .ok (.iload_n 2, 1) := by decide +kernel
theorem dX0_join_122 : decode cX0_join 122 = .ok (.isub, 1) := by decide +kernel
theorem dX0_join_123 : decode cX0_join 123 = .ok (.ireturn, 1) := by decide +kernel
theorem dX0_join_124 : decode cX0_join 124 = .ok (.iload_n 1, 1) := by decide +kernel
theorem dX0_join_125 : decode cX0_join 125 = .ok (.iload_n 2, 1) := by decide +kernel
theorem dX0_join_126 : decode cX0_join 126 = .ok (.imul, 1) := by decide +kernel
theorem dX0_join_127 : decode cX0_join 127 = .ok (.ireturn, 1) := by decide +kernel
theorem dX0_join_128 : decode cX0_join 128 = .ok (.iload_n 2, 1) := by decide +kernel
theorem dX0_join_129 : decode cX0_join 129 = .ok (.ifCond .ne 7, 3) := by decide +kernel
theorem dX0_join_132 : decode cX0_join 132 = .ok (.iconst 0, 1) := by decide +kernel
theorem dX0_join_133 : decode cX0_join 133 = .ok (.goto 6, 3) := by decide +kernel
theorem dX0_join_136 : decode cX0_join 136 = .ok (.iload_n 1, 1) := by decide +kernel
theorem dX0_join_137 : decode cX0_join 137 = .ok (.iload_n 2, 1) := by decide +kernel
theorem dX0_join_138 : decode cX0_join 138 = .ok (.idiv, 1) := by decide +kernel
theorem dX0_join_139 : decode cX0_join 139 = .ok (.ireturn, 1) := by decide +kernel
theorem dX0_join_140 : decode cX0_join 140 = .ok (.iload_n 1, 1) := by decide +kernel
theorem dX0_join_141 : decode cX0_join 141 = .ok (.iload_n 2, 1) := by decide +kernel
theorem dX0_join_142 : decode cX0_join 142 = .ok (.if_icmp .ge 7, 3) := by decide +kernel
theorem dX0_join_145 : decode cX0_join 145 = .ok (.iconst 1, 1) := by decide +kernel
theorem dX0_join_146 : decode cX0_join 146 = .ok (.goto 4, 3) := by decide +kernel
theorem dX0_join_149 : decode cX0_join 149 = .ok (.iconst 0, 1) := by decide +kernel
theorem dX0_join_150 : decode cX0_join 150 = .ok (.ireturn, 1) := by decide +kernel
theorem dX0_join_151 : decode cX0_join 151 = .ok (.iload_n 1, 1) := by decide +kernel
theorem dX0_join_152 : decode cX0_join 152 = .ok (.iload_n 2, 1) := by decide +kernel
theorem dX0_join_153 : decode cX0_join 153 = .ok (.if_icmp .ne 7, 3) := by decide +kernel
theorem dX0_join_156 : decode cX0_join 156 = .ok (.iconst 1, 1) := by decide +kernel
theorem dX0_join_157 : decode cX0_join 157 = .ok (.goto 4, 3) := by decide +kernel
theorem dX0_join_160 : decode cX0_join 160 = .ok (.iconst 0, 1) := by decide +kernel
theorem dX0_join_161 : decode cX0_join 161 = .ok (.ireturn, 1) := by decide +kernel
theorem dX0_join_162 : decode cX0_join 162 = .ok (.iload_n 1, 1) := by decide +kernel
theorem dX0_join_163 : decode cX0_join 163 = .ok (.iload_n 2, 1) := by decide +kernel
theorem dX0_join_164 : decode cX0_join 164 = .ok (.if_icmp .le 7, 3) := by decide +kernel
theorem dX0_join_167 : decode cX0_join 167 = .ok (.iconst 1, 1) := by decide +kernel
theorem dX0_join_168 : decode cX0_join 168 = .ok (.goto 4, 3) := by decide +kernel
theorem dX0_join_171 : decode cX0_join 171 = .ok (.iconst 0, 1) := by decide +kernel
theorem dX0_join_172 : decode cX0_join 172 = .ok (.ireturn, 1) := by decide +kernel
theorem dX0_join_173 : decode cX0_join 173 = .ok (.iload_n 1, 1) := by decide +kernel
theorem dX0_join_174 : decode cX0_join 174 = .ok (.ifCond .eq 11, 3) := by decide +kernel
theorem dX0_join_177 : decode cX0_join 177 = .ok (.iload_n 2, 1) := by decide +kernel
theorem dX0_join_178 : decode cX0_join 178 = .ok (.ifCond .eq 7, 3) := by decide +kernel
theorem dX0_join_181 : decode cX0_join 181 = .ok (.iconst 1, 1) := by decide +kernel
theorem dX0_join_182 : decode cX0_join 182 = .ok (.goto 4, 3) := by decide +kernel
theorem dX0_join_185 : decode cX0_join 185 = .ok (.iconst 0, 1) := by decide +kernel
theorem dX0_join_186 : decode cX0_join 186 = .ok (.ireturn, 1) := by decide +kernel
theorem dX0_join_187 : decode cX0_join 187 = .ok (.iload_n 1, 1) := by decide +kernel
theorem dX0_join_188 : decode cX0_join 188 = .ok (.ifCond .ne 7, 3) := by decide +kernel
theorem dX0_join_191 : decode cX0_join 191 = .ok (.iload_n 2, 1) := by decide +kernel
theorem dX0_join_192 : decode cX0_join 192 = .ok (.ifCond .eq 7, 3) := by decide +kernel
theorem dX0_join_195 : decode cX0_join 195 = .ok (.iconst 1, 1) := by decide +kernel
theorem dX0_join_196 : decode cX0_join 196 = .ok (.goto 4, 3) := by decide +kernel
theorem dX0_join_199 : decode cX0_join 199 = .ok (.iconst 0, 1) := by decide +kernel
theorem dX0_join_200 : decode cX0_join 200 = .ok (.ireturn, 1) := by decide +kernel
theorem dX1_init_0 : decode cX1_init 0 = .ok (.aload_n 0, 1) := by decide +kernel
theorem dX1_init_1 : decode cX1_init 1 = .ok (.invokespecial 3, 3) := by decide +kernel
theorem dX1_init_4 : decode cX1_init 4 = .ok (.aload_n 0, 1) := by decide +kernel
theorem dX1_init_5 : decode cX1_init 5 = .ok (.bipush 10, 2) := by decide +kernel
theorem dX1_init_7 : decode cX1_init 7 = .ok (.newarray .int, 2) := by decide +kernel
theorem dX1_init_9 : decode cX1_init 9 = .ok (.putfield 9, 3) := by decide +kernel
theorem dX1_init_12 : decode cX1_init 12 = .ok (.aload_n 0, 1) := by decide +kernel
theorem dX1_init_13 : decode cX1_init 13 = .ok (.bipush 10, 2) := by decide +kernel
theorem dX1_init_15 : decode cX1_init 15 = .ok (.newarray .int, 2) := by decide +kernel
theorem dX1_init_17 : decode cX1_init 17 = .ok (.putfield 15, 3) := by decide +kernel
theorem dX1_init_20 : decode cX1_init 20 = .ok (.aload_n 0, 1) := by decide +kernel
theorem dX1_init_21 : decode cX1_init 21 = .ok (.bipush 10, 2) := by decide +kernel
theorem dX1_init_23 : decode cX1_init 23 = .ok (.newarray .int, 2) := by decide +kernel
theorem dX1_init_25 : decode cX1_init 25 = .ok (.putfield 18, 3) := by decide +kernel
theorem dX1_init_28 : decode cX1_init 28 = .ok (.return_, 1) := by decide +kernel
theorem dX1_lookAt_0 : decode cX1_lookAt 0 = .ok (.iconst 0, 1) := by decide +kernel
theorem dX1_lookAt_1 : decode cX1_lookAt 1 = .ok (.istore_n 3, 1) := by decide +kernel
theorem dX1_lookAt_2 : decode cX1_lookAt 2 = .ok (.iload_n 3, 1) := by decide +kernel
theorem dX1_lookAt_3 : decode cX1_lookAt 3 = .ok (.aload_n 1, 1) := by decide +kernel
theorem dX1_lookAt_4 : decode cX1_lookAt 4 = .ok (.getfield 21, 3) := by decide +kernel
theorem dX1_lookAt_7 : decode cX1_lookAt 7 = .ok (.if_icmp .ge 112, 3) := by decide +kernel
theorem dX1_lookAt_10 : decode cX1_lookAt 10 = .ok (.aload_n 0, 1) := by decide +kernel
theorem dX1_lookAt_11 : decode cX1_lookAt 11 = .ok (.getfield 9, 3) := by decide +kernel
theorem dX1_lookAt_14 : decode cX1_lookAt 14 = .ok (.iload_n 3, 1) := by decide +kernel
theorem dX1_lookAt_15 : decode cX1_lookAt 15 = .ok (.aload_n 1, 1) := by decide +kernel
theorem dX1_lookAt_16 : decode cX1_lookAt 16 = .ok (.iload_n 3, 1) := by decide +kernel
theorem dX1_lookAt_17 : decode cX1_lookAt 17 = .ok (.invokevirtual 27, 3) := by decide +kernel
theorem dX1_lookAt_20 : decode cX1_lookAt 20 = .ok (.iastore, 1) := by decide +kernel
theorem dX1_lookAt_21 : decode cX1_lookAt 21 = .ok (.aload_n 0, 1) := by decide +kernel
theorem dX1_lookAt_22 : decode cX1_lookAt 22 = .ok (.getfield 15, 3) := by decide +kernel
theorem dX1_lookAt_25 : decode cX1_lookAt 25 = .ok (.iload_n 3, 1) := by decide +kernel
theorem dX1_lookAt_26 : decode cX1_lookAt 26 = .ok (.bipush 10, 2) := by decide +kernel
theorem dX1_lookAt_28 : decode cX1_lookAt 28 = .ok (.aload_n 1, 1) := by decide +kernel
theorem dX1_lookAt_29 : decode cX1_lookAt 29 = .ok (.getfield 31, 3) := by decide +kernel
theorem dX1_lookAt_32 : decode cX1_lookAt 32 = .ok (.iload_n 3, 1) := by decide +kernel
theorem dX1_lookAt_33 : decode cX1_lookAt 33 = .ok (.iaload, 1) := by decide +kernel
theorem dX1_lookAt_34 : decode cX1_lookAt 34 = .ok (.aload_n 1, 1) := by decide +kernel
theorem dX1_lookAt_35 : decode cX1_lookAt 35 = .ok (.getfield 34, 3) := by decide +kernel
theorem dX1_lookAt_38 : decode cX1_lookAt 38 = .ok (.iload_n 2, 1) := by decide +kernel
theorem dX1_lookAt_39 : decode cX1_lookAt 39 = .ok (.iaload, 1) := by decide +kernel
theorem dX1_lookAt_40 : decode cX1_lookAt 40 = .ok (.isub, 1) := by decide +kernel
theorem dX1_lookAt_41 : decode cX1_lookAt 41 = .ok (.invokestatic 37, 3) := by decide +kernel
theorem dX1_lookAt_44 : decode cX1_lookAt 44 = .ok (.isub, 1) := by decide +kernel
theorem dX1_lookAt_45 : decode cX1_lookAt 45 = .ok (.iastore, 1) := by decide +kernel
theorem dX1_lookAt_46 : decode cX1_lookAt 46 = .ok (.aload_n 0, 1) := by decide +kernel
theorem dX1_lookAt_47 : decode cX1_lookAt 47 = .ok (.getfield 18, 3) := by decide +kernel
theorem dX1_lookAt_50 : decode cX1_lookAt 50 = .ok (.iload_n 3, 1) := by decide +kernel
theorem dX1_lookAt_51 : decode cX1_lookAt 51 = .ok (.aload_n 1, 1) := by decide +kernel
theorem dX1_lookAt_52 : decode cX1_lookAt 52 = .ok (.getfield 42, 3) := by decide +kernel
theorem dX1_lookAt_55 : decode cX1_lookAt 55 = .ok (.iload_n 3, 1) := by decide +kernel
theorem dX1_lookAt_56 : decode cX1_lookAt 56 = .ok (.iaload, 1) := by decide +kernel
theorem dX1_lookAt_57 : decode cX1_lookAt 57 = .ok (.iload_n 2, 1) := by decide +kernel
theorem dX1_lookAt_58 : decode cX1_lookAt 58 = .ok (.if_icmp .ne 9, 3) := by decide +kernel
theorem dX1_lookAt_61 : decode cX1_lookAt 61 = .ok (.iconst 1, 1) := by decide +kernel
theorem dX1_lookAt_62 : decode cX1_lookAt 62 = .ok (.iload_n 3, 1) := by decide +kernel
theorem dX1_lookAt_63 : decode cX1_lookAt 63 = .ok (.ishl, 1) := by decide +kernel
theorem dX1_lookAt_64 : decode cX1_lookAt 64 = .ok (.goto 4, 3) := by decide +kernel
theorem dX1_lookAt_67 : decode cX1_lookAt 67 = .ok (.iconst 0, 1) := by decide +kernel
theorem dX1_lookAt_68 : decode cX1_lookAt 68 = .ok (.iastore, 1) := by decide +kernel
theorem dX1_lookAt_69 : decode cX1_lookAt 69 = .ok (.iconst 0, 1) := by decide +kernel
theorem dX1_lookAt_70 : decode cX1_lookAt 70 = .ok (.istore 4, 2) := by decide +kernel
theorem dX1_lookAt_72 : decode cX1_lookAt 72 = .ok (.iload 4, 2) := by decide +kernel
theorem dX1_lookAt_74 : decode cX1_lookAt 74 = .ok (.iload_n 3, 1) := by decide +kernel
theorem dX1_lookAt_75 : decode cX1_lookAt 75 = .ok (.if_icmp .ge 38, 3) := by decide +kernel
theorem dX1_lookAt_78 : decode cX1_lookAt 78 = .ok (.aload_n 1, 1) := by decide +kernel
theorem dX1_lookAt_79 : decode cX1_lookAt 79 = .ok (.getfield 45, 3) := by decide +kernel
theorem dX1_lookAt_82 : decode cX1_lookAt 82 = .ok (.iload 4, 2) := by decide +kernel
theorem dX1_lookAt_84 : decode cX1_lookAt 84 = .ok (.iaload, 1) := by decide +kernel
theorem dX1_lookAt_85 : decode cX1_lookAt 85 = .ok (.aload_n 1, 1) := by decide +kernel
theorem dX1_lookAt_86 : decode cX1_lookAt 86 = .ok (.getfield 45, 3) := by decide +kernel
theorem dX1_lookAt_89 : decode cX1_lookAt 89 = .ok (.iload_n 3, 1) := by decide +kernel
theorem dX1_lookAt_90 : decode cX1_lookAt 90 = .ok (.iaload, 1) := by decide +kernel
theorem dX1_lookAt_91 : decode cX1_lookAt 91 = .ok (.if_icmp .ne 16, 3) := by decide +kernel
theorem dX1_lookAt_94 : decode cX1_lookAt 94 = .ok (.aload_n 0, 1) := by decide +kernel
theorem dX1_lookAt_95 : decode cX1_lookAt 95 = .ok (.getfield 18, 3) := by decide +kernel
theorem dX1_lookAt_98 : decode cX1_lookAt 98 = .ok (.iload_n 3, 1) := by decide +kernel
theorem dX1_lookAt_99 : decode cX1_lookAt 99 = .ok (.dup2, 1) := by decide +kernel
theorem dX1_lookAt_100 : decode cX1_lookAt 100 = .ok (.iaload, 1) := by decide +kernel
theorem dX1_lookAt_101 : decode cX1_lookAt 101 = .ok (.iconst 1, 1) := by decide +kernel
theorem dX1_lookAt_102 : decode cX1_lookAt 102 = .ok (.iload 4, 2) := by decide +kernel
theorem dX1_lookAt_104 : decode cX1_lookAt 104 = .ok (.ishl, 1) := by decide +kernel
theorem dX1_lookAt_105 : decode cX1_lookAt 105 = .ok (.ior, 1) := by decide +kernel
theorem dX1_lookAt_106 : decode cX1_lookAt 106 = .ok (.iastore, 1) := by decide +kernel
theorem dX1_lookAt_107 : decode cX1_lookAt 107 = .ok (.iinc 4 1, 3) := by decide +kernel
theorem dX1_lookAt_110 : decode cX1_lookAt 110 = .ok (.goto (-38), 3) := by decide +kernel
theorem dX1_lookAt_113 : decode cX1_lookAt 113 = .ok (.iinc 3 1, 3) := by decide +kernel
theorem dX1_lookAt_116 : decode cX1_lookAt 116 = .ok (.goto (-114), 3) := by decide +kernel
theorem dX1_lookAt_119 : decode cX1_lookAt 119 = .ok (.return_, 1) := by decide +kernel
theorem dX1_bestSet_0 : decode cX1_bestSet 0 = .ok (.iconst 0, 1) := by decide +kernel
theorem dX1_bestSet_1 : decode cX1_bestSet 1 = .ok (.istore_n 3, 1) := by decide +kernel
theorem dX1_bestSet_2 : decode cX1_bestSet 2 = .ok (.iconst 0, 1) := by decide +kernel
theorem dX1_bestSet_3 : decode cX1_bestSet 3 = .ok (.istore 4, 2) := by decide +kernel
theorem dX1_bestSet_5 : decode cX1_bestSet 5 = .ok (.iconst 1, 1) := by decide +kernel
theorem dX1_bestSet_6 : decode cX1_bestSet 6 = .ok (.istore 5, 2) := by decide +kernel
theorem dX1_bestSet_8 : decode cX1_bestSet 8 = .ok (.iload 5, 2) := by decide +kernel
theorem dX1_bestSet_10 : decode cX1_bestSet 10 = .ok (.iconst 1, 1) := by decide +kernel
theorem dX1_bestSet_11 : decode cX1_bestSet 11 = .ok (.iload_n 1, 1) := by decide +kernel
theorem dX1_bestSet_12 : decode cX1_bestSet 12 = .ok (.ishl, 1) := by decide +kernel
theorem dX1_bestSet_13 : decode cX1_bestSet 13 = .ok (.if_icmp .ge 76, 3) := by decide +kernel
theorem dX1_bestSet_16 : decode cX1_bestSet 16 = .ok (.aload_n 0, 1) := by decide +kernel
theorem dX1_bestSet_17 : decode cX1_bestSet 17 = .ok (.iload 5, 2) := by decide +kernel
theorem dX1_bestSet_19 : decode cX1_bestSet 19 = .ok (.iload_n 1, 1) := by decide +kernel
theorem dX1_bestSet_20 : decode cX1_bestSet 20 = .ok (.invokevirtual 48, 3) := by decide +kernel
theorem dX1_bestSet_23 : decode cX1_bestSet 23 = .ok (.ifCond .eq 60, 3) := by decide +kernel
theorem dX1_bestSet_26 : decode cX1_bestSet 26 = .ok (.aload_n 0, 1) := by decide +kernel
theorem dX1_bestSet_27 : decode cX1_bestSet 27 = .ok (.getfield 9, 3) := by decide +kernel
theorem dX1_bestSet_30 : decode cX1_bestSet 30 = .ok (.iload 5, 2) := by decide +kernel
theorem dX1_bestSet_32 : decode cX1_bestSet 32 = .ok (.invokestatic 52, 3) := by decide +kernel
theorem dX1_bestSet_35 : decode cX1_bestSet 35 = .ok (.iload_n 2, 1) := by decide +kernel
theorem dX1_bestSet_36 : decode cX1_bestSet 36 = .ok (.if_icmp .gt 47, 3) := by decide +kernel
theorem dX1_bestSet_39 : decode cX1_bestSet 39 = .ok (.aload_n 0, 1) := by decide +kernel
theorem dX1_bestSet_40 : decode cX1_bestSet 40 = .ok (.getfield 15, 3) := by decide +kernel
theorem dX1_bestSet_43 : decode cX1_bestSet 43 = .ok (.iload 5, 2) := by decide +kernel
theorem dX1_bestSet_45 : decode cX1_bestSet 45 = .ok (.invokestatic 52, 3) := by decide +kernel
theorem dX1_bestSet_48 : decode cX1_bestSet 48 = .ok (.istore 6, 2) := by decide +kernel
theorem dX1_bestSet_50 : decode cX1_bestSet 50 = .ok (.iload 6, 2) := by decide +kernel
theorem dX1_bestSet_52 : decode cX1_bestSet 52 = .ok (.iload 4, 2) := by decide +kernel
theorem dX1_bestSet_54 : decode cX1_bestSet 54 = .ok (.if_icmp .gt 22, 3) := by decide +kernel
theorem dX1_bestSet_57 : decode cX1_bestSet 57 = .ok (.iload 6, 2) := by decide +kernel
theorem dX1_bestSet_59 : decode cX1_bestSet 59 = .ok (.iload 4, 2) := by decide +kernel
theorem dX1_bestSet_61 : decode cX1_bestSet 61 = .ok (.if_icmp .ne 22, 3) := by decide +kernel
theorem dX1_bestSet_64 : decode cX1_bestSet 64 = .ok (.iload 5, 2) := by decide +kernel
theorem dX1_bestSet_66 : decode cX1_bestSet 66 = .ok (.invokestatic 56, 3) := by decide +kernel
theorem dX1_bestSet_69 : decode cX1_bestSet 69 = .ok (.iload_n 3, 1) := by decide +kernel
theorem dX1_bestSet_70 : decode cX1_bestSet 70 = .ok (.invokestatic 56, 3) := by decide +kernel
theorem dX1_bestSet_73 : decode cX1_bestSet 73 = .ok (.if_icmp .ge 10, 3) := by decide +kernel
theorem dX1_bestSet_76 : decode cX1_bestSet 76 = .ok (.iload 5, 2) := by decide +kernel
theorem dX1_bestSet_78 : decode cX1_bestSet 78 = .ok (.istore_n 3, 1) := by decide +kernel
theorem dX1_bestSet_79 : decode cX1_bestSet 79 = .ok (.iload 6, 2) := by decide +kernel
theorem dX1_bestSet_81 : decode cX1_bestSet 81 = .ok (.istore 4, 2) := by decide +kernel
theorem dX1_bestSet_83 : decode cX1_bestSet 83 = .ok (.iinc 5 1, 3) := by decide +kernel
theorem dX1_bestSet_86 : decode cX1_bestSet 86 = .ok (.goto (-78), 3) := by decide +kernel
theorem dX1_bestSet_89 : decode cX1_bestSet 89 = .ok (.iload_n 3, 1) := by decide +kernel
theorem dX1_bestSet_90 : decode cX1_bestSet 90 = .ok (.ireturn, 1) := by decide +kernel
theorem dX1_canStand_0 : decode cX1_canStand 0 = .ok (.iconst 0, 1) := by decide +kernel
theorem dX1_canStand_1 : decode cX1_canStand 1 = .ok (.istore_n 3, 1) := by decide +kernel
theorem dX1_canStand_2 : decode cX1_canStand 2 = .ok (.iload_n 3, 1) := by decide +kernel
theorem dX1_canStand_3 : decode cX1_canStand 3 = .ok (.iload_n 2, 1) := by decide +kernel
theorem dX1_canStand_4 : decode cX1_canStand 4 = .ok (.if_icmp .ge 30, 3) := by decide +kernel
theorem dX1_canStand_7 : decode cX1_canStand 7 = .ok (.iload_n 1, 1) := by decide +kernel
theorem dX1_canStand_8 : decode cX1_canStand 8 = .ok (.iload_n 3, 1) := by decide +kernel
theorem dX1_canStand_9 : decode cX1_canStand 9 = .ok (.ishr, 1) := by decide +kernel
theorem dX1_canStand_10 : decode cX1_canStand 10 = .ok (.iconst 1, 1) := by decide +kernel
theorem dX1_canStand_11 : decode cX1_canStand 11 = .ok (.iand, 1) := by decide +kernel
theorem dX1_canStand_12 : decode cX1_canStand 12 = .ok (.ifCond .eq 16, 3) := by decide +kernel
theorem dX1_canStand_15 : decode cX1_canStand 15 = .ok (.aload_n 0, 1) := by decide +kernel
theorem dX1_canStand_16 : decode cX1_canStand 16 = .ok (.getfield 18, 3) := by decide +kernel
theorem dX1_canStand_19 : decode cX1_canStand 19 = .ok (.iload_n 3, 1) := by decide +kernel
theorem dX1_canStand_20 : decode cX1_canStand 20 = .ok (.iaload, 1) := by decide +kernel
theorem dX1_canStand_21 : decode cX1_canStand 21 = .ok (.iload_n 1, 1) := by decide +kernel
theorem dX1_canStand_22 : decode cX1_canStand 22 = .ok (.iand, 1) := by decide +kernel
theorem dX1_canStand_23 : decode cX1_canStand 23 = .ok (.ifCond .eq 5, 3) := by decide +kernel
theorem dX1_canStand_26 : decode cX1_canStand 26 = .ok (.iconst 0, 1) := by decide +kernel
theorem dX1_canStand_27 : decode cX1_canStand 27 = .ok (.ireturn, 1) := by decide +kernel
theorem dX1_canStand_28 : decode cX1_canStand 28 = .ok (.iinc 3 1, 3) := by decide +kernel
theorem dX1_canStand_31 : decode cX1_canStand 31 = .ok (.goto (-29), 3) := by decide +kernel
theorem dX1_canStand_34 : decode cX1_canStand 34 = .ok (.iconst 1, 1) := by decide +kernel
theorem dX1_canStand_35 : decode cX1_canStand 35 = .ok (.ireturn, 1) := by decide +kernel
theorem dX2_init_0 : decode cX2_init 0 = .ok (.aload_n 0, 1) := by decide +kernel
theorem dX2_init_1 : decode cX2_init 1 = .ok (.invokespecial 3, 3) := by decide +kernel
theorem dX2_init_4 : decode cX2_init 4 = .ok (.aload_n 0, 1) := by decide +kernel
theorem dX2_init_5 : decode cX2_init 5 = .ok (.bipush 96, 2) := by decide +kernel
theorem dX2_init_7 : decode cX2_init 7 = .ok (.newarray .int, 2) := by decide +kernel
theorem dX2_init_9 : decode cX2_init 9 = .ok (.putfield 9, 3) := by decide +kernel
theorem dX2_init_12 : decode cX2_init 12 = .ok (.aload_n 0, 1) := by decide +kernel
theorem dX2_init_13 : decode cX2_init 13 = .ok (.bipush 96, 2) := by decide +kernel
theorem dX2_init_15 : decode cX2_init 15 = .ok (.newarray .int, 2) := by decide +kernel
theorem dX2_init_17 : decode cX2_init 17 = .ok (.putfield 15, 3) := by decide +kernel
theorem dX2_init_20 : decode cX2_init 20 = .ok (.return_, 1) := by decide +kernel
theorem dX2_takeIn_0 : decode cX2_takeIn 0 = .ok (.bipush 24, 2) := by decide +kernel
theorem dX2_takeIn_2 : decode cX2_takeIn 2 = .ok (.istore_n 2, 1) := by decide +kernel
theorem dX2_takeIn_3 : decode cX2_takeIn 3 = .ok (.iload_n 2, 1) := by decide +kernel
theorem dX2_takeIn_4 : decode cX2_takeIn 4 = .ok (.ifCond .lt 44, 3) := by decide +kernel
theorem dX2_takeIn_7 : decode cX2_takeIn 7 = .ok (.aload_n 0, 1) := by decide +kernel
theorem dX2_takeIn_8 : decode cX2_takeIn 8 = .ok (.getfield 18, 3) := by decide +kernel
theorem dX2_takeIn_11 : decode cX2_takeIn 11 = .ok (.bipush 96, 2) := by decide +kernel
theorem dX2_takeIn_13 : decode cX2_takeIn 13 = .ok (.if_icmp .ge 35, 3) := by decide +kernel
theorem dX2_takeIn_16 : decode cX2_takeIn 16 = .ok (.aload_n 0, 1) := by decide +kernel
theorem dX2_takeIn_17 : decode cX2_takeIn 17 = .ok (.getfield 9, 3) := by decide +kernel
theorem dX2_takeIn_20 : decode cX2_takeIn 20 = .ok (.aload_n 0, 1) := by decide +kernel
theorem dX2_takeIn_21 : decode cX2_takeIn 21 = .ok (.getfield 18, 3) := by decide +kernel
theorem dX2_takeIn_24 : decode cX2_takeIn 24 = .ok (.iload_n 1, 1) := by decide +kernel
theorem dX2_takeIn_25 : decode cX2_takeIn 25 = .ok (.iload_n 2, 1) := by decide +kernel
theorem dX2_takeIn_26 : decode cX2_takeIn 26 = .ok (.iushr, 1) := by decide +kernel
theorem dX2_takeIn_27 : decode cX2_takeIn 27 = .ok (.sipush 255, 3) := by decide +kernel
theorem dX2_takeIn_30 : decode cX2_takeIn 30 = .ok (.iand, 1) := by decide +kernel
theorem dX2_takeIn_31 : decode cX2_takeIn 31 = .ok (.iastore, 1) := by decide +kernel
theorem dX2_takeIn_32 : decode cX2_takeIn 32 = .ok (.aload_n 0, 1) := by decide +kernel
theorem dX2_takeIn_33 : decode cX2_takeIn 33 = .ok (.dup, 1) := by decide +kernel
theorem dX2_takeIn_34 : decode cX2_takeIn 34 = .ok (.getfield 18, 3) := by decide +kernel
theorem dX2_takeIn_37 : decode cX2_takeIn 37 = .ok (.iconst 1, 1) := by decide +kernel
theorem dX2_takeIn_38 : decode cX2_takeIn 38 = .ok (.iadd, 1) := by decide +kernel
theorem dX2_takeIn_39 : decode cX2_takeIn 39 = .ok (.putfield 18, 3) := by decide +kernel
theorem dX2_takeIn_42 : decode cX2_takeIn 42 = .ok (.iinc 2 (-8), 3) := by decide +kernel
theorem dX2_takeIn_45 : decode cX2_takeIn 45 = .ok (.goto (-42), 3) := by decide +kernel
theorem dX2_takeIn_48 : decode cX2_takeIn 48 = .ok (.return_, 1) := by decide +kernel
theorem dX2_readText_0 : decode cX2_readText 0 = .ok (.aload_n 0, 1) := by decide +kernel
theorem dX2_readText_1 : decode cX2_readText 1 = .ok (.iconst 0, 1) := by decide +kernel
theorem dX2_readText_2 : decode cX2_readText 2 = .ok (.putfield 22, 3) := by decide +kernel
theorem dX2_readText_5 : decode cX2_readText 5 = .ok (.aload_n 0, 1) := by decide +kernel
theorem dX2_readText_6 : decode cX2_readText 6 = .ok (.iconst 0, 1) := by decide +kernel
theorem dX2_readText_7 : decode cX2_readText 7 = .ok (.putfield 25, 3) := by decide +kernel
theorem dX2_readText_10 : decode cX2_readText 10 = .ok (.aload_n 0, 1) := by decide +kernel
theorem dX2_readText_11 : decode cX2_readText 11 = .ok (.iconst 0, 1) := by decide +kernel
theorem dX2_readText_12 : decode cX2_readText 12 = .ok (.putfield 28, 3) := by decide +kernel
theorem dX2_readText_15 : decode cX2_readText 15 = .ok (.aload_n 0, 1) := by decide +kernel
theorem dX2_readText_16 : decode cX2_readText 16 = .ok (.iconst 0, 1) := by decide +kernel
theorem dX2_readText_17 : decode cX2_readText 17 = .ok (.putfield 31, 3) := by decide +kernel
theorem dX2_readText_20 : decode cX2_readText 20 = .ok (.aload_n 0, 1) := by decide +kernel
theorem dX2_readText_21 : decode cX2_readText 21 = .ok (.invokevirtual 34, 3) := by decide +kernel
theorem dX2_readText_24 : decode cX2_readText 24 = .ok (.aload_n 0, 1) := by decide +kernel
theorem dX2_readText_25 : decode cX2_readText 25 = .ok (.aload_n 0, 1) := by decide +kernel
theorem dX2_readText_26 : decode cX2_readText 26 = .ok (.invokevirtual 37, 3) := by decide +kernel
theorem dX2_readText_29 : decode cX2_readText 29 = .ok (.putfield 41, 3) := by decide +kernel
theorem dX2_readText_32 : decode cX2_readText 32 = .ok (.aload_n 0, 1) := by decide +kernel
theorem dX2_readText_33 : decode cX2_readText 33 = .ok (.getfield 41, 3) := by decide +kernel
theorem dX2_readText_36 : decode cX2_readText 36 = .ok (.ifCond .ge 5, 3) := by decide +kernel
theorem dX2_readText_39 : decode cX2_readText 39 = .ok (.iconst 0, 1) := by decide +kernel
theorem dX2_readText_40 : decode cX2_readText 40 = .ok (.ireturn, 1) := by decide +kernel
theorem dX2_readText_41 : decode cX2_readText 41 = .ok (.aload_n 0, 1) := by decide +kernel
theorem dX2_readText_42 : decode cX2_readText 42 = .ok (.invokevirtual 34, 3) := by decide +kernel
theorem dX2_readText_45 : decode cX2_readText 45 = .ok (.aload_n 0, 1) := by decide +kernel
theorem dX2_readText_46 : decode cX2_readText 46 = .ok (.iconst 0, 1) := by decide +kernel
theorem dX2_readText_47 : decode cX2_readText 47 = .ok (.iconst 0, 1) := by decide +kernel
theorem dX2_readText_48 : decode cX2_readText 48 = .ok (.iconst 0, 1) := by decide +kernel
theorem dX2_readText_49 : decode cX2_readText 49 = .ok (.invokevirtual 44, 3) := by decide +kernel
theorem dX2_readText_52 : decode cX2_readText 52 = .ok (.ifCond .eq 14, 3) := by decide +kernel
theorem dX2_readText_55 : decode cX2_readText 55 = .ok (.aload_n 0, 1) := by decide +kernel
theorem dX2_readText_56 : decode cX2_readText 56 = .ok (.getfield 25, 3) := by decide +kernel
theorem dX2_readText_59 : decode cX2_readText 59 = .ok (.ifCond .ne 7, 3) := by decide +kernel
theorem dX2_readText_62 : decode cX2_readText 62 = .ok (.iconst 1, 1) := by decide +kernel
theorem dX2_readText_63 : decode cX2_readText 63 = .ok (.goto 4, 3) := by decide +kernel
theorem dX2_readText_66 : decode cX2_readText 66 = .ok (.iconst 0, 1) := by decide +kernel
theorem dX2_readText_67 : decode cX2_readText 67 = .ok (.ireturn, 1) := by decide +kernel
theorem dX2_readLevel_0 : decode cX2_readLevel 0 = .ok (.iload_n 1, 1) := by decide +kernel
theorem dX2_readLevel_1 : decode cX2_readLevel 1 = .ok (.iconst 5, 1) := by decide +kernel
theorem dX2_readLevel_2 : decode cX2_readLevel 2 = .ok (.if_icmp .lt 10, 3) := by decide +kernel
theorem dX2_readLevel_5 : decode cX2_readLevel 5 = .ok (.aload_n 0, 1) := by decide +kernel
theorem dX2_readLevel_6 : decode cX2_readLevel 6 = .ok (.iload_n 2, 1) := by decide +kernel
theorem dX2_readLevel_7 : decode cX2_readLevel 7 = .ok (.iload_n 3, 1) := by decide +kernel
theorem dX2_readLevel_8 : decode cX2_readLevel 8 = .ok (.invokevirtual 48, 3) := by decide +kernel
theorem dX2_readLevel_11 : decode cX2_readLevel 11 = .ok (.ireturn, 1) := by decide +kernel
theorem dX2_readLevel_12 : decode cX2_readLevel 12 = .ok (.aload_n 0, 1) := by decide +kernel
theorem dX2_readLevel_13 : decode cX2_readLevel 13 = .ok (.iload_n 1, 1) := by decide +kernel
theorem dX2_readLevel_14 : decode cX2_readLevel 14 = .ok (.iconst 1, 1) := by decide +kernel
theorem dX2_readLevel_15 : decode cX2_readLevel 15 = .ok (.iadd, 1) := by decide +kernel
theorem dX2_readLevel_16 : decode cX2_readLevel 16 = .ok (.iload_n 2, 1) := by decide +kernel
theorem dX2_readLevel_17 : decode cX2_readLevel 17 = .ok (.iload_n 3, 1) := by decide +kernel
theorem dX2_readLevel_18 : decode cX2_readLevel 18 = .ok (.invokevirtual 44, 3) := by decide +kernel
theorem dX2_readLevel_21 : decode cX2_readLevel 21 = .ok (.ifCond .ne 5, 3) := by decide +kernel
theorem dX2_readLevel_24 : decode cX2_readLevel 24 = .ok (.iconst 0, 1) := by decide +kernel
theorem dX2_readLevel_25 : decode cX2_readLevel 25 = .ok (.ireturn, 1) := by decide +kernel
theorem dX2_readLevel_26 : decode cX2_readLevel 26 = .ok (.iload_n 1, 1) := by decide +kernel
theorem dX2_readLevel_27 : decode cX2_readLevel 27 = .ok (.iconst 2, 1) := by decide +kernel
theorem dX2_readLevel_28 : decode cX2_readLevel 28 = .ok (.if_icmp .ne 7, 3) := by decide +kernel
theorem dX2_readLevel_31 : decode cX2_readLevel 31 = .ok (.iconst 1, 1) := by decide +kernel
theorem dX2_readLevel_32 : decode cX2_readLevel 32 = .ok (.goto 5, 3) := by decide +kernel
theorem dX2_readLevel_35 : decode cX2_readLevel 35 = .ok (.bipush 96, 2) := by decide +kernel
theorem dX2_readLevel_37 : decode cX2_readLevel 37 = .ok (.istore 4, 2) := by decide +kernel
theorem dX2_readLevel_39 : decode cX2_readLevel 39 = .ok (.iconst 0, 1) := by decide +kernel
theorem dX2_readLevel_40 : decode cX2_readLevel 40 = .ok (.istore 5, 2) := by decide +kernel
theorem dX2_readLevel_42 : decode cX2_readLevel 42 = .ok (.iload 5, 2) := by decide +kernel
theorem dX2_readLevel_44 : decode cX2_readLevel 44 = .ok (.iload 4, 2) := by decide +kernel
theorem dX2_readLevel_46 : decode cX2_readLevel 46 = .ok (.if_icmp .ge 48, 3) := by decide +kernel
theorem dX2_readLevel_49 : decode cX2_readLevel 49 = .ok (.aload_n 0, 1) := by decide +kernel
theorem dX2_readLevel_50 : decode cX2_readLevel 50 = .ok (.iload_n 1, 1) := by decide +kernel
theorem dX2_readLevel_51 : decode cX2_readLevel 51 = .ok (.invokevirtual 52, 3) := by decide +kernel
theorem dX2_readLevel_54 : decode cX2_readLevel 54 = .ok (.ifCond .eq 40, 3) := by decide +kernel
theorem dX2_readLevel_57 : decode cX2_readLevel 57 = .ok (.aload_n 0, 1) := by decide +kernel
theorem dX2_readLevel_58 : decode cX2_readLevel 58 = .ok (.getfield 56, 3) := by decide +kernel
theorem dX2_readLevel_61 : decode cX2_readLevel 61 = .ok (.istore 6, 2) := by decide +kernel
theorem dX2_readLevel_63 : decode cX2_readLevel 63 = .ok (.aload_n 0, 1) := by decide +kernel
theorem dX2_readLevel_64 : decode cX2_readLevel 64 = .ok (.invokevirtual 34, 3) := by decide +kernel
theorem dX2_readLevel_67 : decode cX2_readLevel 67 = .ok (.aload_n 0, 1) := by decide +kernel
theorem dX2_readLevel_68 : decode cX2_readLevel 68 = .ok (.iload_n 1, 1) := by decide +kernel
theorem dX2_readLevel_69 : decode cX2_readLevel 69 = .ok (.iconst 1, 1) := by decide +kernel
theorem dX2_readLevel_70 : decode cX2_readLevel 70 = .ok (.iadd, 1) := by decide +kernel
theorem dX2_readLevel_71 : decode cX2_readLevel 71 = .ok (.iload_n 2, 1) := by decide +kernel
theorem dX2_readLevel_72 : decode cX2_readLevel 72 = .ok (.iload_n 3, 1) := by decide +kernel
theorem dX2_readLevel_73 : decode cX2_readLevel 73 = .ok (.invokevirtual 44, 3) := by decide +kernel
theorem dX2_readLevel_76 : decode cX2_readLevel 76 = .ok (.ifCond .ne 5, 3) := by decide +kernel
theorem dX2_readLevel_79 : decode cX2_readLevel 79 = .ok (.iconst 0, 1) := by decide +kernel
theorem dX2_readLevel_80 : decode cX2_readLevel 80 = .ok (.ireturn, 1) := by decide +kernel
theorem dX2_readLevel_81 : decode cX2_readLevel 81 = .ok (.aload_n 0, 1) := by decide +kernel
theorem dX2_readLevel_82 : decode cX2_readLevel 82 = .ok (.iload 6, 2) := by decide +kernel
theorem dX2_readLevel_84 : decode cX2_readLevel 84 = .ok (.ineg, 1) := by decide +kernel
theorem dX2_readLevel_85 : decode cX2_readLevel 85 = .ok (.invokevirtual 59, 3) := by decide +kernel
theorem dX2_readLevel_88 : decode cX2_readLevel 88 = .ok (.iinc 5 1, 3) := by decide +kernel
theorem dX2_readLevel_91 : decode cX2_readLevel 91 = .ok (.goto (-49), 3) := by decide +kernel
theorem dX2_readLevel_94 : decode cX2_readLevel 94 = .ok (.iconst 1, 1) := by decide +kernel
theorem dX2_readLevel_95 : decode cX2_readLevel 95 = .ok (.ireturn, 1) := by decide +kernel
theorem dX2_readPiece_0 : decode cX2_readPiece 0 = .ok (.aload_n 0, 1) := by decide +kernel
theorem dX2_readPiece_1 : decode cX2_readPiece 1 = .ok (.getfield 25, 3) := by decide +kernel
theorem dX2_readPiece_4 : decode cX2_readPiece 4 = .ok (.iconst 2, 1) := by decide +kernel
theorem dX2_readPiece_5 : decode cX2_readPiece 5 = .ok (.if_icmp .ne 12, 3) := by decide +kernel
theorem dX2_readPiece_8 : decode cX2_readPiece 8 = .ok (.aload_n 0, 1) := by decide +kernel
theorem dX2_readPiece_9 : decode cX2_readPiece 9 = .ok (.aload_n 0, 1) := by decide +kernel
theorem dX2_readPiece_10 : decode cX2_readPiece 10 = .ok (.getfield 56, 3) := by decide +kernel
theorem dX2_readPiece_13 : decode cX2_readPiece 13 = .ok (.invokevirtual 63, 3) := by decide +kernel
theorem dX2_readPiece_16 : decode cX2_readPiece 16 = .ok (.ireturn, 1) := by decide +kernel
theorem dX2_readPiece_17 : decode cX2_readPiece 17 = .ok (.aload_n 0, 1) := by decide +kernel
theorem dX2_readPiece_18 : decode cX2_readPiece 18 = .ok (.getfield 25, 3) := by decide +kernel
theorem dX2_readPiece_21 : decode cX2_readPiece 21 = .ok (.iconst 3, 1) := by decide +kernel
theorem dX2_readPiece_22 : decode cX2_readPiece 22 = .ok (.if_icmp .ne 28, 3) := by decide +kernel
theorem dX2_readPiece_25 : decode cX2_readPiece 25 = .ok (.aload_n 0, 1) := by decide +kernel
theorem dX2_readPiece_26 : decode cX2_readPiece 26 = .ok (.invokevirtual 66, 3) := by decide +kernel
theorem dX2_readPiece_29 : decode cX2_readPiece 29 = .ok (.istore_n 3, 1) := by decide +kernel
theorem dX2_readPiece_30 : decode cX2_readPiece 30 = .ok (.iload_n 3, 1) := by decide +kernel
theorem dX2_readPiece_31 : decode cX2_readPiece 31 = .ok (.ifCond .lt 17, 3) := by decide +kernel
theorem dX2_readPiece_34 : decode cX2_readPiece 34 = .ok (.aload_n 0, 1) := by decide +kernel
theorem dX2_readPiece_35 : decode cX2_readPiece 35 = .ok (.iconst (-1), 1) := by decide +kernel
theorem dX2_readPiece_36 : decode cX2_readPiece 36 = .ok (.iload_n 3, 1) := by decide +kernel
theorem dX2_readPiece_37 : decode cX2_readPiece 37 = .ok (.isub, 1) := by decide +kernel
theorem dX2_readPiece_38 : decode cX2_readPiece 38 = .ok (.invokevirtual 63, 3) := by decide +kernel
theorem dX2_readPiece_41 : decode cX2_readPiece 41 = .ok (.ifCond .eq 7, 3) := by decide +kernel
theorem dX2_readPiece_44 : decode cX2_readPiece 44 = .ok (.iconst 1, 1) := by decide +kernel
theorem dX2_readPiece_45 : decode cX2_readPiece 45 = .ok (.goto 4, 3) := by decide +kernel
theorem dX2_readPiece_48 : decode cX2_readPiece 48 = .ok (.iconst 0, 1) := by decide +kernel
theorem dX2_readPiece_49 : decode cX2_readPiece 49 = .ok (.ireturn, 1) := by decide +kernel
theorem dX2_readPiece_50 : decode cX2_readPiece 50 = .ok (.aload_n 0, 1) := by decide +kernel
theorem dX2_readPiece_51 : decode cX2_readPiece 51 = .ok (.bipush 33, 2) := by decide +kernel
theorem dX2_readPiece_53 : decode cX2_readPiece 53 = .ok (.invokevirtual 69, 3) := by decide +kernel
theorem dX2_readPiece_56 : decode cX2_readPiece 56 = .ok (.ifCond .eq 26, 3) := by decide +kernel
theorem dX2_readPiece_59 : decode cX2_readPiece 59 = .ok (.iload_n 2, 1) := by decide +kernel
theorem dX2_readPiece_60 : decode cX2_readPiece 60 = .ok (.bipush 8, 2) := by decide +kernel
theorem dX2_readPiece_62 : decode cX2_readPiece 62 = .ok (.if_icmp .ge 18, 3) := by decide +kernel
theorem dX2_readPiece_65 : decode cX2_readPiece 65 = .ok (.aload_n 0, 1) := by decide +kernel
theorem dX2_readPiece_66 : decode cX2_readPiece 66 = .ok (.iload_n 1, 1) := by decide +kernel
theorem dX2_readPiece_67 : decode cX2_readPiece 67 = .ok (.iload_n 2, 1) := by decide +kernel
theorem dX2_readPiece_68 : decode cX2_readPiece 68 = .ok (.iconst 1, 1) := by decide +kernel
theorem dX2_readPiece_69 : decode cX2_readPiece 69 = .ok (.iadd, 1) := by decide +kernel
theorem dX2_readPiece_70 : decode cX2_readPiece 70 = .ok (.invokevirtual 72, 3) := by decide +kernel
theorem dX2_readPiece_73 : decode cX2_readPiece 73 = .ok (.ifCond .eq 7, 3) := by decide +kernel
theorem dX2_readPiece_76 : decode cX2_readPiece 76 = .ok (.iconst 1, 1) := by decide +kernel
theorem dX2_readPiece_77 : decode cX2_readPiece 77 = .ok (.goto 4, 3) := by decide +kernel
theorem dX2_readPiece_80 : decode cX2_readPiece 80 = .ok (.iconst 0, 1) := by decide +kernel
theorem dX2_readPiece_81 : decode cX2_readPiece 81 = .ok (.ireturn, 1) := by decide +kernel
theorem dX2_readPiece_82 : decode cX2_readPiece 82 = .ok (.aload_n 0, 1) := by decide +kernel
theorem dX2_readPiece_83 : decode cX2_readPiece 83 = .ok (.bipush 40, 2) := by decide +kernel
theorem dX2_readPiece_85 : decode cX2_readPiece 85 = .ok (.invokevirtual 69, 3) := by decide +kernel
theorem dX2_readPiece_88 : decode cX2_readPiece 88 = .ok (.ifCond .eq 24, 3) := by decide +kernel
theorem dX2_readPiece_91 : decode cX2_readPiece 91 = .ok (.iload_n 1, 1) := by decide +kernel
theorem dX2_readPiece_92 : decode cX2_readPiece 92 = .ok (.bipush 8, 2) := by decide +kernel
theorem dX2_readPiece_94 : decode cX2_readPiece 94 = .ok (.if_icmp .ge 18, 3) := by decide +kernel
theorem dX2_readPiece_97 : decode cX2_readPiece 97 = .ok (.aload_n 0, 1) := by decide +kernel
theorem dX2_readPiece_98 : decode cX2_readPiece 98 = .ok (.iload_n 1, 1) := by decide +kernel
theorem dX2_readPiece_99 : decode cX2_readPiece 99 = .ok (.iconst 1, 1) := by decide +kernel
theorem dX2_readPiece_100 : decode cX2_readPiece 100 = .ok (.iadd, 1) := by decide +kernel
theorem dX2_readPiece_101 : decode cX2_readPiece 101 = .ok (.iload_n 2, 1) := by decide +kernel
theorem dX2_readPiece_102 : decode cX2_readPiece 102 = .ok (.invokevirtual 75, 3) := by decide +kernel
theorem dX2_readPiece_105 : decode cX2_readPiece 105 = .ok (.ifCond .eq 7, 3) := by decide +kernel
theorem dX2_readPiece_108 : decode cX2_readPiece 108 = .ok (.iconst 1, 1) := by decide +kernel
theorem dX2_readPiece_109 : decode cX2_readPiece 109 = .ok (.goto 4, 3) := by decide +kernel
theorem dX2_readPiece_112 : decode cX2_readPiece 112 = .ok (.iconst 0, 1) := by decide +kernel
theorem dX2_readPiece_113 : decode cX2_readPiece 113 = .ok (.ireturn, 1) := by decide +kernel
theorem dX2_readNot_0 : decode cX2_readNot 0 = .ok (.aload_n 0, 1) := by decide +kernel
theorem dX2_readNot_1 : decode cX2_readNot 1 = .ok (.invokevirtual 34, 3) := by decide +kernel
theorem dX2_readNot_4 : decode cX2_readNot 4 = .ok (.aload_n 0, 1) := by decide +kernel
theorem dX2_readNot_5 : decode cX2_readNot 5 = .ok (.iload_n 1, 1) := by decide +kernel
theorem dX2_readNot_6 : decode cX2_readNot 6 = .ok (.iload_n 2, 1) := by decide +kernel
theorem dX2_readNot_7 : decode cX2_readNot 7 = .ok (.invokevirtual 48, 3) := by decide +kernel
theorem dX2_readNot_10 : decode cX2_readNot 10 = .ok (.ifCond .ne 5, 3) := by decide +kernel
theorem dX2_readNot_13 : decode cX2_readNot 13 = .ok (.iconst 0, 1) := by decide +kernel
theorem dX2_readNot_14 : decode cX2_readNot 14 = .ok (.ireturn, 1) := by decide +kernel
theorem dX2_readNot_15 : decode cX2_readNot 15 = .ok (.aload_n 0, 1) := by decide +kernel
theorem dX2_readNot_16 : decode cX2_readNot 16 = .ok (.bipush (-33), 2) := by decide +kernel
theorem dX2_readNot_18 : decode cX2_readNot 18 = .ok (.invokevirtual 59, 3) := by decide +kernel
theorem dX2_readNot_21 : decode cX2_readNot 21 = .ok (.iconst 1, 1) := by decide +kernel
theorem dX2_readNot_22 : decode cX2_readNot 22 = .ok (.ireturn, 1) := by decide +kernel
theorem dX2_readOpen_0 : decode cX2_readOpen 0 = .ok (.aload_n 0, 1) := by decide +kernel
theorem dX2_readOpen_1 : decode cX2_readOpen 1 = .ok (.invokevirtual 34, 3) := by decide +kernel
theorem dX2_readOpen_4 : decode cX2_readOpen 4 = .ok (.aload_n 0, 1) := by decide +kernel
theorem dX2_readOpen_5 : decode cX2_readOpen 5 = .ok (.iconst 0, 1) := by decide +kernel
theorem dX2_readOpen_6 : decode cX2_readOpen 6 = .ok (.iload_n 1, 1) := by decide +kernel
theorem dX2_readOpen_7 : decode cX2_readOpen 7 = .ok (.iload_n 2, 1) := by decide +kernel
theorem dX2_readOpen_8 : decode cX2_readOpen 8 = .ok (.invokevirtual 44, 3) := by decide +kernel
theorem dX2_readOpen_11 : decode cX2_readOpen 11 = .ok (.ifCond .eq 12, 3) := by decide +kernel
theorem dX2_readOpen_14 : decode cX2_readOpen 14 = .ok (.aload_n 0, 1) := by decide +kernel
theorem dX2_readOpen_15 : decode cX2_readOpen 15 = .ok (.bipush 41, 2) := by decide +kernel
theorem dX2_readOpen_17 : decode cX2_readOpen 17 = .ok (.invokevirtual 69, 3) := by decide +kernel
theorem dX2_readOpen_20 : decode cX2_readOpen 20 = .ok (.ifCond .ne 5, 3) := by decide +kernel
theorem dX2_readOpen_23 : decode cX2_readOpen 23 = .ok (.iconst 0, 1) := by decide +kernel
theorem dX2_readOpen_24 : decode cX2_readOpen 24 = .ok (.ireturn, 1) := by decide +kernel
theorem dX2_readOpen_25 : decode cX2_readOpen 25 = .ok (.aload_n 0, 1) := by decide +kernel
theorem dX2_readOpen_26 : decode cX2_readOpen 26 = .ok (.invokevirtual 34, 3) := by decide +kernel
theorem dX2_readOpen_29 : decode cX2_readOpen 29 = .ok (.iconst 1, 1) := by decide +kernel
theorem dX2_readOpen_30 : decode cX2_readOpen 30 = .ok (.ireturn, 1) := by decide +kernel
theorem dX2_takeLeaf_0 : decode cX2_takeLeaf 0 = .ok (.aload_n 0, 1) := by decide +kernel
theorem dX2_takeLeaf_1 : decode cX2_takeLeaf 1 = .ok (.iload_n 1, 1) := by decide +kernel
theorem dX2_takeLeaf_2 : decode cX2_takeLeaf 2 = .ok (.invokevirtual 59, 3) := by decide +kernel
theorem dX2_takeLeaf_5 : decode cX2_takeLeaf 5 = .ok (.aload_n 0, 1) := by decide +kernel
theorem dX2_takeLeaf_6 : decode cX2_takeLeaf 6 = .ok (.dup, 1) := by decide +kernel
theorem dX2_takeLeaf_7 : decode cX2_takeLeaf 7 = .ok (.getfield 31, 3) := by decide +kernel
theorem dX2_takeLeaf_10 : decode cX2_takeLeaf 10 = .ok (.iconst 1, 1) := by decide +kernel
theorem dX2_takeLeaf_11 : decode cX2_takeLeaf 11 = .ok (.iadd, 1) := by decide +kernel
theorem dX2_takeLeaf_12 : decode cX2_takeLeaf 12 = .ok (.putfield 31, 3) := by decide +kernel
theorem dX2_takeLeaf_15 : decode cX2_takeLeaf 15 = .ok (.aload_n 0, 1) := by decide +kernel
theorem dX2_takeLeaf_16 : decode cX2_takeLeaf 16 = .ok (.invokevirtual 34, 3) := by decide +kernel
theorem dX2_takeLeaf_19 : decode cX2_takeLeaf 19 = .ok (.iconst 1, 1) := by decide +kernel
theorem dX2_takeLeaf_20 : decode cX2_takeLeaf 20 = .ok (.ireturn, 1) := by decide +kernel
theorem dX2_addStep_0 : decode cX2_addStep 0 = .ok (.aload_n 0, 1) := by decide +kernel
theorem dX2_addStep_1 : decode cX2_addStep 1 = .ok (.getfield 28, 3) := by decide +kernel
theorem dX2_addStep_4 : decode cX2_addStep 4 = .ok (.bipush 96, 2) := by decide +kernel
theorem dX2_addStep_6 : decode cX2_addStep 6 = .ok (.if_icmp .ge 23, 3) := by decide +kernel
theorem dX2_addStep_9 : decode cX2_addStep 9 = .ok (.aload_n 0, 1) := by decide +kernel
theorem dX2_addStep_10 : decode cX2_addStep 10 = .ok (.getfield 15, 3) := by decide +kernel
theorem dX2_addStep_13 : decode cX2_addStep 13 = .ok (.aload_n 0, 1) := by decide +kernel
theorem dX2_addStep_14 : decode cX2_addStep 14 = .ok (.getfield 28, 3) := by decide +kernel
theorem dX2_addStep_17 : decode cX2_addStep 17 = .ok (.iload_n 1, 1) := by decide +kernel
theorem dX2_addStep_18 : decode cX2_addStep 18 = .ok (.iastore, 1) := by decide +kernel
theorem dX2_addStep_19 : decode cX2_addStep 19 = .ok (.aload_n 0, 1) := by decide +kernel
theorem dX2_addStep_20 : decode cX2_addStep 20 = .ok (.dup, 1) := by decide +kernel
theorem dX2_addStep_21 : decode cX2_addStep 21 = .ok (.getfield 28, 3) := by decide +kernel
theorem dX2_addStep_24 : decode cX2_addStep 24 = .ok (.iconst 1, 1) := by decide +kernel
theorem dX2_addStep_25 : decode cX2_addStep 25 = .ok (.iadd, 1) := by decide +kernel
theorem dX2_addStep_26 : decode cX2_addStep 26 = .ok (.putfield 28, 3) := by decide +kernel
theorem dX2_addStep_29 : decode cX2_addStep 29 = .ok (.return_, 1) := by decide +kernel
theorem dX2_isSign_0 : decode cX2_isSign 0 = .ok (.aload_n 0, 1) := by decide +kernel
theorem dX2_isSign_1 : decode cX2_isSign 1 = .ok (.getfield 25, 3) := by decide +kernel
theorem dX2_isSign_4 : decode cX2_isSign 4 = .ok (.iconst 1, 1) := by decide +kernel
theorem dX2_isSign_5 : decode cX2_isSign 5 = .ok (.if_icmp .ne 15, 3) := by decide +kernel
theorem dX2_isSign_8 : decode cX2_isSign 8 = .ok (.aload_n 0, 1) := by decide +kernel
theorem dX2_isSign_9 : decode cX2_isSign 9 = .ok (.getfield 56, 3) := by decide +kernel
theorem dX2_isSign_12 : decode cX2_isSign 12 = .ok (.iload_n 1, 1) := by decide +kernel
theorem dX2_isSign_13 : decode cX2_isSign 13 = .ok (.if_icmp .ne 7, 3) := by decide +kernel
theorem dX2_isSign_16 : decode cX2_isSign 16 = .ok (.iconst 1, 1) := by decide +kernel
theorem dX2_isSign_17 : decode cX2_isSign 17 = .ok (.goto 4, 3) := by decide +kernel
theorem dX2_isSign_20 : decode cX2_isSign 20 = .ok (.iconst 0, 1) := by decide +kernel
theorem dX2_isSign_21 : decode cX2_isSign 21 = .ok (.ireturn, 1) := by decide +kernel
theorem dX2_joinsAt_0 : decode cX2_joinsAt 0 = .ok (.iload_n 1, 1) := by decide +kernel
theorem dX2_joinsAt_1 : decode cX2_joinsAt 1 = .ok (.tableswitch 102 0 3 #[31, 38, 45, 78], 31) := by decide +kernel
theorem dX2_joinsAt_32 : decode cX2_joinsAt 32 = .ok (.aload_n 0, 1) := by decide +kernel
theorem dX2_joinsAt_33 : decode cX2_joinsAt 33 = .ok (.bipush 124, 2) := by decide +kernel
theorem dX2_joinsAt_35 : decode cX2_joinsAt 35 = .ok (.invokevirtual 69, 3) := by decide +kernel
theorem dX2_joinsAt_38 : decode cX2_joinsAt 38 = .ok (.ireturn, 1) := by decide +kernel
theorem dX2_joinsAt_39 : decode cX2_joinsAt 39 = .ok (.aload_n 0, 1) := by decide +kernel
theorem dX2_joinsAt_40 : decode cX2_joinsAt 40 = .ok (.bipush 38, 2) := by decide +kernel
theorem dX2_joinsAt_42 : decode cX2_joinsAt 42 = .ok (.invokevirtual 69, 3) := by decide +kernel
theorem dX2_joinsAt_45 : decode cX2_joinsAt 45 = .ok (.ireturn, 1) := by decide +kernel
theorem dX2_joinsAt_46 : decode cX2_joinsAt 46 = .ok (.aload_n 0, 1) := by decide +kernel
theorem dX2_joinsAt_47 : decode cX2_joinsAt 47 = .ok (.bipush 60, 2) := by decide +kernel
theorem dX2_joinsAt_49 : decode cX2_joinsAt 49 = .ok (.invokevirtual 69, 3) := by decide +kernel
theorem dX2_joinsAt_52 : decode cX2_joinsAt 52 = .ok (.ifCond .ne 21, 3) := by decide +kernel
theorem dX2_joinsAt_55 : decode cX2_joinsAt 55 = .ok (.aload_n 0, 1) := by decide +kernel
theorem dX2_joinsAt_56 : decode cX2_joinsAt 56 = .ok (.bipush 61, 2) := by decide +kernel
theorem dX2_joinsAt_58 : decode cX2_joinsAt 58 = .ok (.invokevirtual 69, 3) := by decide +kernel
theorem dX2_joinsAt_61 : decode cX2_joinsAt 61 = .ok (.ifCond .ne 12, 3) := by decide +kernel
theorem dX2_joinsAt_64 : decode cX2_joinsAt 64 = .ok (.aload_n 0, 1) := by decide +kernel
theorem dX2_joinsAt_65 : decode cX2_joinsAt 65 = .ok (.bipush 62, 2) := by decide +kernel
theorem dX2_joinsAt_67 : decode cX2_joinsAt 67 = .ok (.invokevirtual 69, 3) := by decide +kernel
theorem dX2_joinsAt_70 : decode cX2_joinsAt 70 = .ok (.ifCond .eq 7, 3) := by decide +kernel
theorem dX2_joinsAt_73 : decode cX2_joinsAt 73 = .ok (.iconst 1, 1) := by decide +kernel
theorem dX2_joinsAt_74 : decode cX2_joinsAt 74 = .ok (.goto 4, 3) := by decide +kernel
theorem dX2_joinsAt_77 : decode cX2_joinsAt 77 = .ok (.iconst 0, 1) := by decide +kernel
theorem dX2_joinsAt_78 : decode cX2_joinsAt 78 = .ok (.ireturn, 1) := by decide +kernel
theorem dX2_joinsAt_79 : decode cX2_joinsAt 79 = .ok (.aload_n 0, 1) := by decide +kernel
theorem dX2_joinsAt_80 : decode cX2_joinsAt 80 = .ok (.bipush 43, 2) := by decide +kernel
theorem dX2_joinsAt_82 : decode cX2_joinsAt 82 = .ok (.invokevirtual 69, 3) := by decide +kernel
theorem dX2_joinsAt_85 : decode cX2_joinsAt 85 = .ok (.ifCond .ne 12, 3) := by decide +kernel
theorem dX2_joinsAt_88 : decode cX2_joinsAt 88 = .ok (.aload_n 0, 1) := by decide +kernel
theorem dX2_joinsAt_89 : decode cX2_joinsAt 89 = .ok (.bipush 45, 2) := by decide +kernel
theorem dX2_joinsAt_91 : decode cX2_joinsAt 91 = .ok (.invokevirtual 69, 3) := by decide +kernel
theorem dX2_joinsAt_94 : decode cX2_joinsAt 94 = .ok (.ifCond .eq 7, 3) := by decide +kernel
theorem dX2_joinsAt_97 : decode cX2_joinsAt 97 = .ok (.iconst 1, 1) := by decide +kernel
theorem dX2_joinsAt_98 : decode cX2_joinsAt 98 = .ok (.goto 4, 3) := by decide +kernel
theorem dX2_joinsAt_101 : decode cX2_joinsAt 101 = .ok (.iconst 0, 1) := by decide +kernel
theorem dX2_joinsAt_102 : decode cX2_joinsAt 102 = .ok (.ireturn, 1) := by decide +kernel
theorem dX2_joinsAt_103 : decode cX2_joinsAt 103 = .ok (.aload_n 0, 1) := by decide +kernel
theorem dX2_joinsAt_104 : decode cX2_joinsAt 104 = .ok (.bipush 42, 2) := by decide +kernel
theorem dX2_joinsAt_106 : decode cX2_joinsAt 106 = .ok (.invokevirtual 69, 3) := by decide +kernel
theorem dX2_joinsAt_109 : decode cX2_joinsAt 109 = .ok (.ifCond .ne 12, 3) := by decide +kernel
theorem dX2_joinsAt_112 : decode cX2_joinsAt 112 = .ok (.aload_n 0, 1) := by decide +kernel
theorem dX2_joinsAt_113 : decode cX2_joinsAt 113 = .ok (.bipush 47, 2) := by decide +kernel
theorem dX2_joinsAt_115 : decode cX2_joinsAt 115 = .ok (.invokevirtual 69, 3) := by decide +kernel
theorem dX2_joinsAt_118 : decode cX2_joinsAt 118 = .ok (.ifCond .eq 7, 3) := by decide +kernel
theorem dX2_joinsAt_121 : decode cX2_joinsAt 121 = .ok (.iconst 1, 1) := by decide +kernel
theorem dX2_joinsAt_122 : decode cX2_joinsAt 122 = .ok (.goto 4, 3) := by decide +kernel
theorem dX2_joinsAt_125 : decode cX2_joinsAt 125 = .ok (.iconst 0, 1) := by decide +kernel
theorem dX2_joinsAt_126 : decode cX2_joinsAt 126 = .ok (.ireturn, 1) := by decide +kernel
theorem dX2_keyAtHand_0 : decode cX2_keyAtHand 0 = .ok (.iconst 0, 1) := by decide +kernel
theorem dX2_keyAtHand_1 : decode cX2_keyAtHand 1 = .ok (.istore_n 1, 1) := by decide +kernel
theorem dX2_keyAtHand_2 : decode cX2_keyAtHand 2 = .ok (.iload_n 1, 1) := by decide +kernel
theorem dX2_keyAtHand_3 : decode cX2_keyAtHand 3 = .ok (.iconst 3, 1) := by decide +kernel
theorem dX2_keyAtHand_4 : decode cX2_keyAtHand 4 = .ok (.if_icmp .ge 30, 3) := by decide +kernel
theorem dX2_keyAtHand_7 : decode cX2_keyAtHand 7 = .ok (.aload_n 0, 1) := by decide +kernel
theorem dX2_keyAtHand_8 : decode cX2_keyAtHand 8 = .ok (.getfield 25, 3) := by decide +kernel
theorem dX2_keyAtHand_11 : decode cX2_keyAtHand 11 = .ok (.iconst 3, 1) := by decide +kernel
theorem dX2_keyAtHand_12 : decode cX2_keyAtHand 12 = .ok (.if_icmp .ne 16, 3) := by decide +kernel
theorem dX2_keyAtHand_15 : decode cX2_keyAtHand 15 = .ok (.aload_n 0, 1) := by decide +kernel
theorem dX2_keyAtHand_16 : decode cX2_keyAtHand 16 = .ok (.iload_n 1, 1) := by decide +kernel
theorem dX2_keyAtHand_17 : decode cX2_keyAtHand 17 = .ok (.invokestatic 78, 3) := by decide +kernel
theorem dX2_keyAtHand_20 : decode cX2_keyAtHand 20 = .ok (.invokevirtual 82, 3) := by decide +kernel
theorem dX2_keyAtHand_23 : decode cX2_keyAtHand 23 = .ok (.ifCond .eq 5, 3) := by decide +kernel
theorem dX2_keyAtHand_26 : decode cX2_keyAtHand 26 = .ok (.iload_n 1, 1) := by decide +kernel
theorem dX2_keyAtHand_27 : decode cX2_keyAtHand 27 = .ok (.ireturn, 1) := by decide +kernel
theorem dX2_keyAtHand_28 : decode cX2_keyAtHand 28 = .ok (.iinc 1 1, 3) := by decide +kernel
theorem dX2_keyAtHand_31 : decode cX2_keyAtHand 31 = .ok (.goto (-29), 3) := by decide +kernel
theorem dX2_keyAtHand_34 : decode cX2_keyAtHand 34 = .ok (.iconst (-1), 1) := by decide +kernel
theorem dX2_keyAtHand_35 : decode cX2_keyAtHand 35 = .ok (.ireturn, 1) := by decide +kernel
theorem dX2_nameAtHand_0 : decode cX2_nameAtHand 0 = .ok (.aload_n 0, 1) := by decide +kernel
theorem dX2_nameAtHand_1 : decode cX2_nameAtHand 1 = .ok (.getfield 22, 3) := by decide +kernel
theorem dX2_nameAtHand_4 : decode cX2_nameAtHand 4 = .ok (.aload_n 0, 1) := by decide +kernel
theorem dX2_nameAtHand_5 : decode cX2_nameAtHand 5 = .ok (.getfield 86, 3) := by decide +kernel
theorem dX2_nameAtHand_8 : decode cX2_nameAtHand 8 = .ok (.isub, 1) := by decide +kernel
theorem dX2_nameAtHand_9 : decode cX2_nameAtHand 9 = .ok (.iconst 1, 1) := by decide +kernel
theorem dX2_nameAtHand_10 : decode cX2_nameAtHand 10 = .ok (.if_icmp .ne 26, 3) := by decide +kernel
theorem dX2_nameAtHand_13 : decode cX2_nameAtHand 13 = .ok (.aload_n 0, 1) := by decide +kernel
theorem dX2_nameAtHand_14 : decode cX2_nameAtHand 14 = .ok (.getfield 41, 3) := by decide +kernel
theorem dX2_nameAtHand_17 : decode cX2_nameAtHand 17 = .ok (.invokestatic 89, 3) := by decide +kernel
theorem dX2_nameAtHand_20 : decode cX2_nameAtHand 20 = .ok (.aload_n 0, 1) := by decide +kernel
theorem dX2_nameAtHand_21 : decode cX2_nameAtHand 21 = .ok (.getfield 9, 3) := by decide +kernel
theorem dX2_nameAtHand_24 : decode cX2_nameAtHand 24 = .ok (.aload_n 0, 1) := by decide +kernel
theorem dX2_nameAtHand_25 : decode cX2_nameAtHand 25 = .ok (.getfield 86, 3) := by decide +kernel
theorem dX2_nameAtHand_28 : decode cX2_nameAtHand 28 = .ok (.iaload, 1) := by decide +kernel
theorem dX2_nameAtHand_29 : decode cX2_nameAtHand 29 = .ok (.i2c, 1) := by decide +kernel
theorem dX2_nameAtHand_30 : decode cX2_nameAtHand 30 = .ok (.invokevirtual 92, 3) := by decide +kernel
theorem dX2_nameAtHand_33 : decode cX2_nameAtHand 33 = .ok (.goto 4, 3) := by decide +kernel
theorem dX2_nameAtHand_36 : decode cX2_nameAtHand 36 = .ok (.iconst (-1), 1) := by decide +kernel
theorem dX2_nameAtHand_37 : decode cX2_nameAtHand 37 = .ok (.ireturn, 1) := by decide +kernel
theorem dX2_isWord_0 : decode cX2_isWord 0 = .ok (.aload_n 0, 1) := by decide +kernel
theorem dX2_isWord_1 : decode cX2_isWord 1 = .ok (.getfield 22, 3) := by decide +kernel
theorem dX2_isWord_4 : decode cX2_isWord 4 = .ok (.aload_n 0, 1) := by decide +kernel
theorem dX2_isWord_5 : decode cX2_isWord 5 = .ok (.getfield 86, 3) := by decide +kernel
theorem dX2_isWord_8 : decode cX2_isWord 8 = .ok (.isub, 1) := by decide +kernel
theorem dX2_isWord_9 : decode cX2_isWord 9 = .ok (.aload_n 1, 1) := by decide +kernel
theorem dX2_isWord_10 : decode cX2_isWord 10 = .ok (.invokevirtual 98, 3) := by decide +kernel
theorem dX2_isWord_13 : decode cX2_isWord 13 = .ok (.if_icmp .eq 5, 3) := by decide +kernel
theorem dX2_isWord_16 : decode cX2_isWord 16 = .ok (.iconst 0, 1) := by decide +kernel
theorem dX2_isWord_17 : decode cX2_isWord 17 = .ok (.ireturn, 1) := by decide +kernel
theorem dX2_isWord_18 : decode cX2_isWord 18 = .ok (.iconst 0, 1) := by decide +kernel
theorem dX2_isWord_19 : decode cX2_isWord 19 = .ok (.istore_n 2, 1) := by decide +kernel
theorem dX2_isWord_20 : decode cX2_isWord 20 = .ok (.iload_n 2, 1) := by decide +kernel
theorem dX2_isWord_21 : decode cX2_isWord 21 = .ok (.aload_n 1, 1) := by decide +kernel
theorem dX2_isWord_22 : decode cX2_isWord 22 = .ok (.invokevirtual 98, 3) := by decide +kernel
theorem dX2_isWord_25 : decode cX2_isWord 25 = .ok (.if_icmp .ge 30, 3) := by decide +kernel
theorem dX2_isWord_28 : decode cX2_isWord 28 = .ok (.aload_n 0, 1) := by decide +kernel
theorem dX2_isWord_29 : decode cX2_isWord 29 = .ok (.getfield 9, 3) := by decide +kernel
theorem dX2_isWord_32 : decode cX2_isWord 32 = .ok (.aload_n 0, 1) := by decide +kernel
theorem dX2_isWord_33 : decode cX2_isWord 33 = .ok (.getfield 86, 3) := by decide +kernel
theorem dX2_isWord_36 : decode cX2_isWord 36 = .ok (.iload_n 2, 1) := by decide +kernel
theorem dX2_isWord_37 : decode cX2_isWord 37 = .ok (.iadd, 1) := by decide +kernel
theorem dX2_isWord_38 : decode cX2_isWord 38 = .ok (.iaload, 1) := by decide +kernel
theorem dX2_isWord_39 : decode cX2_isWord 39 = .ok (.aload_n 1, 1) := by decide +kernel
theorem dX2_isWord_40 : decode cX2_isWord 40 = .ok (.iload_n 2, 1) := by decide +kernel
theorem dX2_isWord_41 : decode cX2_isWord 41 = .ok (.invokevirtual 100, 3) := by decide +kernel
theorem dX2_isWord_44 : decode cX2_isWord 44 = .ok (.if_icmp .eq 5, 3) := by decide +kernel
theorem dX2_isWord_47 : decode cX2_isWord 47 = .ok (.iconst 0, 1) := by decide +kernel
theorem dX2_isWord_48 : decode cX2_isWord 48 = .ok (.ireturn, 1) := by decide +kernel
theorem dX2_isWord_49 : decode cX2_isWord 49 = .ok (.iinc 2 1, 3) := by decide +kernel
theorem dX2_isWord_52 : decode cX2_isWord 52 = .ok (.goto (-32), 3) := by decide +kernel
theorem dX2_isWord_55 : decode cX2_isWord 55 = .ok (.iconst 1, 1) := by decide +kernel
theorem dX2_isWord_56 : decode cX2_isWord 56 = .ok (.ireturn, 1) := by decide +kernel
theorem dX2_keyText_0 : decode cX2_keyText 0 = .ok (.iload_n 0, 1) := by decide +kernel
theorem dX2_keyText_1 : decode cX2_keyText 1 = .ok (.lookupswitch 33 #[(0, 27), (1, 30)], 27) := by decide +kernel
theorem dX2_keyText_28 : decode cX2_keyText 28 = .ok (.ldc 104, 2) := by decide +kernel
theorem dX2_keyText_30 : decode cX2_keyText 30 = .ok (.areturn, 1) := by decide +kernel
theorem dX2_keyText_31 : decode cX2_keyText 31 = .ok (.ldc 106, 2) := by decide +kernel
theorem dX2_keyText_33 : decode cX2_keyText 33 = .ok (.areturn, 1) := by decide +kernel
theorem dX2_keyText_34 : decode cX2_keyText 34 = .ok (.ldc 108, 2) := by decide +kernel
theorem dX2_keyText_36 : decode cX2_keyText 36 = .ok (.areturn, 1) := by decide +kernel
theorem dX2_namesOf_0 : decode cX2_namesOf 0 = .ok (.iload_n 0, 1) := by decide +kernel
theorem dX2_namesOf_1 : decode cX2_namesOf 1 = .ok (.lookupswitch 33 #[(0, 27), (1, 30)], 27) := by decide +kernel
theorem dX2_namesOf_28 : decode cX2_namesOf 28 = .ok (.ldc 110, 2) := by decide +kernel
theorem dX2_namesOf_30 : decode cX2_namesOf 30 = .ok (.areturn, 1) := by decide +kernel
theorem dX2_namesOf_31 : decode cX2_namesOf 31 = .ok (.ldc 112, 2) := by decide +kernel
theorem dX2_namesOf_33 : decode cX2_namesOf 33 = .ok (.areturn, 1) := by decide +kernel
theorem dX2_namesOf_34 : decode cX2_namesOf 34 = .ok (.ldc 114, 2) := by decide +kernel
theorem dX2_namesOf_36 : decode cX2_namesOf 36 = .ok (.areturn, 1) := by decide +kernel
theorem dX2_goToNext_0 : decode cX2_goToNext 0 = .ok (.aload_n 0, 1) := by decide +kernel
theorem dX2_goToNext_1 : decode cX2_goToNext 1 = .ok (.getfield 25, 3) := by decide +kernel
theorem dX2_goToNext_4 : decode cX2_goToNext 4 = .ok (.iconst 2, 1) := by decide +kernel
theorem dX2_goToNext_5 : decode cX2_goToNext 5 = .ok (.if_icmp .eq 11, 3) := by decide +kernel
theorem dX2_goToNext_8 : decode cX2_goToNext 8 = .ok (.aload_n 0, 1) := by decide +kernel
theorem dX2_goToNext_9 : decode cX2_goToNext 9 = .ok (.getfield 25, 3) := by decide +kernel
theorem dX2_goToNext_12 : decode cX2_goToNext 12 = .ok (.iconst 3, 1) := by decide +kernel
theorem dX2_goToNext_13 : decode cX2_goToNext 13 = .ok (.if_icmp .ne 7, 3) := by decide +kernel
theorem dX2_goToNext_16 : decode cX2_goToNext 16 = .ok (.iconst 1, 1) := by decide +kernel
theorem dX2_goToNext_17 : decode cX2_goToNext 17 = .ok (.goto 4, 3) := by decide +kernel
theorem dX2_goToNext_20 : decode cX2_goToNext 20 = .ok (.iconst 0, 1) := by decide +kernel
theorem dX2_goToNext_21 : decode cX2_goToNext 21 = .ok (.istore_n 1, 1) := by decide +kernel
theorem dX2_goToNext_22 : decode cX2_goToNext 22 = .ok (.aload_n 0, 1) := by decide +kernel
theorem dX2_goToNext_23 : decode cX2_goToNext 23 = .ok (.aload_n 0, 1) := by decide +kernel
theorem dX2_goToNext_24 : decode cX2_goToNext 24 = .ok (.getfield 22, 3) := by decide +kernel
theorem dX2_goToNext_27 : decode cX2_goToNext 27 = .ok (.putfield 86, 3) := by decide +kernel
theorem dX2_goToNext_30 : decode cX2_goToNext 30 = .ok (.aload_n 0, 1) := by decide +kernel
theorem dX2_goToNext_31 : decode cX2_goToNext 31 = .ok (.getfield 86, 3) := by decide +kernel
theorem dX2_goToNext_34 : decode cX2_goToNext 34 = .ok (.aload_n 0, 1) := by decide +kernel
theorem dX2_goToNext_35 : decode cX2_goToNext 35 = .ok (.getfield 18, 3) := by decide +kernel
theorem dX2_goToNext_38 : decode cX2_goToNext 38 = .ok (.if_icmp .ge 30, 3) := by decide +kernel
theorem dX2_goToNext_41 : decode cX2_goToNext 41 = .ok (.aload_n 0, 1) := by decide +kernel
theorem dX2_goToNext_42 : decode cX2_goToNext 42 = .ok (.getfield 9, 3) := by decide +kernel
theorem dX2_goToNext_45 : decode cX2_goToNext 45 = .ok (.aload_n 0, 1) := by decide +kernel
theorem dX2_goToNext_46 : decode cX2_goToNext 46 = .ok (.getfield 86, 3) := by decide +kernel
theorem dX2_goToNext_49 : decode cX2_goToNext 49 = .ok (.iaload, 1) := by decide +kernel
theorem dX2_goToNext_50 : decode cX2_goToNext 50 = .ok (.bipush 32, 2) := by decide +kernel
theorem dX2_goToNext_52 : decode cX2_goToNext 52 = .ok (.if_icmp .ne 16, 3) := by decide +kernel
theorem dX2_goToNext_55 : decode cX2_goToNext 55 = .ok (.aload_n 0, 1) := by decide +kernel
theorem dX2_goToNext_56 : decode cX2_goToNext 56 = .ok (.dup, 1) := by decide +kernel
theorem dX2_goToNext_57 : decode cX2_goToNext 57 = .ok (.getfield 86, 3) := by decide +kernel
theorem dX2_goToNext_60 : decode cX2_goToNext 60 = .ok (.iconst 1, 1) := by decide +kernel
theorem dX2_goToNext_61 : decode cX2_goToNext 61 = .ok (.iadd, 1) := by decide +kernel
theorem dX2_goToNext_62 : decode cX2_goToNext 62 = .ok (.putfield 86, 3) := by decide +kernel
theorem dX2_goToNext_65 : decode cX2_goToNext 65 = .ok (.goto (-35), 3) := by decide +kernel
theorem dX2_goToNext_68 : decode cX2_goToNext 68 = .ok (.iload_n 1, 1) := by decide +kernel
theorem dX2_goToNext_69 : decode cX2_goToNext 69 = .ok (.ifCond .eq 18, 3) := by decide +kernel
theorem dX2_goToNext_72 : decode cX2_goToNext 72 = .ok (.aload_n 0, 1) := by decide +kernel
theorem dX2_goToNext_73 : decode cX2_goToNext 73 = .ok (.getfield 86, 3) := by decide +kernel
theorem dX2_goToNext_76 : decode cX2_goToNext 76 = .ok (.aload_n 0, 1) := by decide +kernel
theorem dX2_goToNext_77 : decode cX2_goToNext 77 = .ok (.getfield 22, 3) := by decide +kernel
theorem dX2_goToNext_80 : decode cX2_goToNext 80 = .ok (.if_icmp .ne 7, 3) := by decide +kernel
theorem dX2_goToNext_83 : decode cX2_goToNext 83 = .ok (.iconst 1, 1) := by decide +kernel
theorem dX2_goToNext_84 : decode cX2_goToNext 84 = .ok (.goto 4, 3) := by decide +kernel
theorem dX2_goToNext_87 : decode cX2_goToNext 87 = .ok (.iconst 0, 1) := by decide +kernel
theorem dX2_goToNext_88 : decode cX2_goToNext 88 = .ok (.istore_n 2, 1) := by decide +kernel
theorem dX2_goToNext_89 : decode cX2_goToNext 89 = .ok (.aload_n 0, 1) := by decide +kernel
theorem dX2_goToNext_90 : decode cX2_goToNext 90 = .ok (.getfield 86, 3) := by decide +kernel
theorem dX2_goToNext_93 : decode cX2_goToNext 93 = .ok (.aload_n 0, 1) := by decide +kernel
theorem dX2_goToNext_94 : decode cX2_goToNext 94 = .ok (.getfield 18, 3) := by decide +kernel
theorem dX2_goToNext_97 : decode cX2_goToNext 97 = .ok (.if_icmp .lt 19, 3) := by decide +kernel
theorem dX2_goToNext_100 : decode cX2_goToNext 100 = .ok (.aload_n 0, 1) := by decide +kernel
theorem dX2_goToNext_101 : decode cX2_goToNext 101 = .ok (.iconst 0, 1) := by decide +kernel
theorem dX2_goToNext_102 : decode cX2_goToNext 102 = .ok (.putfield 25, 3) := by decide +kernel
theorem dX2_goToNext_105 : decode cX2_goToNext 105 = .ok (.aload_n 0, 1) := by decide +kernel
theorem dX2_goToNext_106 : decode cX2_goToNext 106 = .ok (.aload_n 0, 1) := by decide +kernel
theorem dX2_goToNext_107 : decode cX2_goToNext 107 = .ok (.getfield 18, 3) := by decide +kernel
theorem dX2_goToNext_110 : decode cX2_goToNext 110 = .ok (.putfield 22, 3) := by decide +kernel
theorem dX2_goToNext_113 : decode cX2_goToNext 113 = .ok (.goto 77, 3) := by decide +kernel
theorem dX2_goToNext_116 : decode cX2_goToNext 116 = .ok (.aload_n 0, 1) := by decide +kernel
theorem dX2_goToNext_117 : decode cX2_goToNext 117 = .ok (.getfield 9, 3) := by decide +kernel
theorem dX2_goToNext_120 : decode cX2_goToNext 120 = .ok (.aload_n 0, 1) := by decide +kernel
theorem dX2_goToNext_121 : decode cX2_goToNext 121 = .ok (.getfield 86, 3) := by decide +kernel
theorem dX2_goToNext_124 : decode cX2_goToNext 124 = .ok (.iaload, 1) := by decide +kernel
theorem dX2_goToNext_125 : decode cX2_goToNext 125 = .ok (.invokestatic 116, 3) := by decide +kernel
theorem dX2_goToNext_128 : decode cX2_goToNext 128 = .ok (.ifCond .eq 11, 3) := by decide +kernel
theorem dX2_goToNext_131 : decode cX2_goToNext 131 = .ok (.aload_n 0, 1) := by decide +kernel
theorem dX2_goToNext_132 : decode cX2_goToNext 132 = .ok (.iload_n 2, 1) := by decide +kernel
theorem dX2_goToNext_133 : decode cX2_goToNext 133 = .ok (.invokevirtual 119, 3) := by decide +kernel
theorem dX2_goToNext_136 : decode cX2_goToNext 136 = .ok (.goto 54, 3) := by decide +kernel
theorem dX2_goToNext_139 : decode cX2_goToNext 139 = .ok (.aload_n 0, 1) := by decide +kernel
theorem dX2_goToNext_140 : decode cX2_goToNext 140 = .ok (.getfield 9, 3) := by decide +kernel
theorem dX2_goToNext_143 : decode cX2_goToNext 143 = .ok (.aload_n 0, 1) := by decide +kernel
theorem dX2_goToNext_144 : decode cX2_goToNext 144 = .ok (.getfield 86, 3) := by decide +kernel
theorem dX2_goToNext_147 : decode cX2_goToNext 147 = .ok (.iaload, 1) := by decide +kernel
theorem dX2_goToNext_148 : decode cX2_goToNext 148 = .ok (.invokestatic 123, 3) := by decide +kernel
theorem dX2_goToNext_151 : decode cX2_goToNext 151 = .ok (.ifCond .eq 11, 3) := by decide +kernel
theorem dX2_goToNext_154 : decode cX2_goToNext 154 = .ok (.aload_n 0, 1) := by decide +kernel
theorem dX2_goToNext_155 : decode cX2_goToNext 155 = .ok (.iload_n 2, 1) := by decide +kernel
theorem dX2_goToNext_156 : decode cX2_goToNext 156 = .ok (.invokevirtual 126, 3) := by decide +kernel
theorem dX2_goToNext_159 : decode cX2_goToNext 159 = .ok (.goto 31, 3) := by decide +kernel
theorem dX2_goToNext_162 : decode cX2_goToNext 162 = .ok (.aload_n 0, 1) := by decide +kernel
theorem dX2_goToNext_163 : decode cX2_goToNext 163 = .ok (.iconst 1, 1) := by decide +kernel
theorem dX2_goToNext_164 : decode cX2_goToNext 164 = .ok (.putfield 25, 3) := by decide +kernel
theorem dX2_goToNext_167 : decode cX2_goToNext 167 = .ok (.aload_n 0, 1) := by decide +kernel
theorem dX2_goToNext_168 : decode cX2_goToNext 168 = .ok (.aload_n 0, 1) := by decide +kernel
theorem dX2_goToNext_169 : decode cX2_goToNext 169 = .ok (.getfield 9, 3) := by decide +kernel
theorem dX2_goToNext_172 : decode cX2_goToNext 172 = .ok (.aload_n 0, 1) := by decide +kernel
theorem dX2_goToNext_173 : decode cX2_goToNext 173 = .ok (.getfield 86, 3) := by decide +kernel
theorem dX2_goToNext_176 : decode cX2_goToNext 176 = .ok (.iaload, 1) := by decide +kernel
theorem dX2_goToNext_177 : decode cX2_goToNext 177 = .ok (.putfield 56, 3) := by decide +kernel
theorem dX2_goToNext_180 : decode cX2_goToNext 180 = .ok (.aload_n 0, 1) := by decide +kernel
theorem dX2_goToNext_181 : decode cX2_goToNext 181 = .ok (.aload_n 0, 1) := by decide +kernel
theorem dX2_goToNext_182 : decode cX2_goToNext 182 = .ok (.getfield 86, 3) := by decide +kernel
theorem dX2_goToNext_185 : decode cX2_goToNext 185 = .ok (.iconst 1, 1) := by decide +kernel
theorem dX2_goToNext_186 : decode cX2_goToNext 186 = .ok (.iadd, 1) := by decide +kernel
theorem dX2_goToNext_187 : decode cX2_goToNext 187 = .ok (.putfield 22, 3) := by decide +kernel
theorem dX2_goToNext_190 : decode cX2_goToNext 190 = .ok (.return_, 1) := by decide +kernel
theorem dX2_takeLetters_0 : decode cX2_takeLetters 0 = .ok (.aload_n 0, 1) := by decide +kernel
theorem dX2_takeLetters_1 : decode cX2_takeLetters 1 = .ok (.aload_n 0, 1) := by decide +kernel
theorem dX2_takeLetters_2 : decode cX2_takeLetters 2 = .ok (.getfield 86, 3) := by decide +kernel
theorem dX2_takeLetters_5 : decode cX2_takeLetters 5 = .ok (.putfield 22, 3) := by decide +kernel
theorem dX2_takeLetters_8 : decode cX2_takeLetters 8 = .ok (.aload_n 0, 1) := by decide +kernel
theorem dX2_takeLetters_9 : decode cX2_takeLetters 9 = .ok (.getfield 22, 3) := by decide +kernel
theorem dX2_takeLetters_12 : decode cX2_takeLetters 12 = .ok (.aload_n 0, 1) := by decide +kernel
theorem dX2_takeLetters_13 : decode cX2_takeLetters 13 = .ok (.getfield 18, 3) := by decide +kernel
theorem dX2_takeLetters_16 : decode cX2_takeLetters 16 = .ok (.if_icmp .ge 31, 3) := by decide +kernel
theorem dX2_takeLetters_19 : decode cX2_takeLetters 19 = .ok (.aload_n 0, 1) := by decide +kernel
theorem dX2_takeLetters_20 : decode cX2_takeLetters 20 = .ok (.getfield 9, 3) := by decide +kernel
theorem dX2_takeLetters_23 : decode cX2_takeLetters 23 = .ok (.aload_n 0, 1) := by decide +kernel
theorem dX2_takeLetters_24 : decode cX2_takeLetters 24 = .ok (.getfield 22, 3) := by decide +kernel
theorem dX2_takeLetters_27 : decode cX2_takeLetters 27 = .ok (.iaload, 1) := by decide +kernel
theorem dX2_takeLetters_28 : decode cX2_takeLetters 28 = .ok (.invokestatic 116, 3) := by decide +kernel
theorem dX2_takeLetters_31 : decode cX2_takeLetters 31 = .ok (.ifCond .eq 16, 3) := by decide +kernel
theorem dX2_takeLetters_34 : decode cX2_takeLetters 34 = .ok (.aload_n 0, 1) := by decide +kernel
theorem dX2_takeLetters_35 : decode cX2_takeLetters 35 = .ok (.dup, 1) := by decide +kernel
theorem dX2_takeLetters_36 : decode cX2_takeLetters 36 = .ok (.getfield 22, 3) := by decide +kernel
theorem dX2_takeLetters_39 : decode cX2_takeLetters 39 = .ok (.iconst 1, 1) := by decide +kernel
theorem dX2_takeLetters_40 : decode cX2_takeLetters 40 = .ok (.iadd, 1) := by decide +kernel
theorem dX2_takeLetters_41 : decode cX2_takeLetters 41 = .ok (.putfield 22, 3) := by decide +kernel
theorem dX2_takeLetters_44 : decode cX2_takeLetters 44 = .ok (.goto (-36), 3) := by decide +kernel
theorem dX2_takeLetters_47 : decode cX2_takeLetters 47 = .ok (.aload_n 0, 1) := by decide +kernel
theorem dX2_takeLetters_48 : decode cX2_takeLetters 48 = .ok (.iload_n 1, 1) := by decide +kernel
theorem dX2_takeLetters_49 : decode cX2_takeLetters 49 = .ok (.ifCond .eq 7, 3) := by decide +kernel
theorem dX2_takeLetters_52 : decode cX2_takeLetters 52 = .ok (.iconst 4, 1) := by decide +kernel
theorem dX2_takeLetters_53 : decode cX2_takeLetters 53 = .ok (.goto 4, 3) := by decide +kernel
theorem dX2_takeLetters_56 : decode cX2_takeLetters 56 = .ok (.iconst 3, 1) := by decide +kernel
theorem dX2_takeLetters_57 : decode cX2_takeLetters 57 = .ok (.putfield 25, 3) := by decide +kernel
theorem dX2_takeLetters_60 : decode cX2_takeLetters 60 = .ok (.return_, 1) := by decide +kernel
theorem dX2_takeDigits_0 : decode cX2_takeDigits 0 = .ok (.aload_n 0, 1) := by decide +kernel
theorem dX2_takeDigits_1 : decode cX2_takeDigits 1 = .ok (.aload_n 0, 1) := by decide +kernel
theorem dX2_takeDigits_2 : decode cX2_takeDigits 2 = .ok (.getfield 86, 3) := by decide +kernel
theorem dX2_takeDigits_5 : decode cX2_takeDigits 5 = .ok (.putfield 22, 3) := by decide +kernel
theorem dX2_takeDigits_8 : decode cX2_takeDigits 8 = .ok (.aload_n 0, 1) := by decide +kernel
theorem dX2_takeDigits_9 : decode cX2_takeDigits 9 = .ok (.iconst 0, 1) := by decide +kernel
theorem dX2_takeDigits_10 : decode cX2_takeDigits 10 = .ok (.putfield 56, 3) := by decide +kernel
theorem dX2_takeDigits_13 : decode cX2_takeDigits 13 = .ok (.aload_n 0, 1) := by decide +kernel
theorem dX2_takeDigits_14 : decode cX2_takeDigits 14 = .ok (.getfield 22, 3) := by decide +kernel
theorem dX2_takeDigits_17 : decode cX2_takeDigits 17 = .ok (.aload_n 0, 1) := by decide +kernel
theorem dX2_takeDigits_18 : decode cX2_takeDigits 18 = .ok (.getfield 18, 3) := by decide +kernel
theorem dX2_takeDigits_21 : decode cX2_takeDigits 21 = .ok (.if_icmp .ge 55, 3) := by decide +kernel
theorem dX2_takeDigits_24 : decode cX2_takeDigits 24 = .ok (.aload_n 0, 1) := by decide +kernel
theorem dX2_takeDigits_25 : decode cX2_takeDigits 25 = .ok (.getfield 9, 3) := by decide +kernel
theorem dX2_takeDigits_28 : decode cX2_takeDigits 28 = .ok (.aload_n 0, 1) := by decide +kernel
theorem dX2_takeDigits_29 : decode cX2_takeDigits 29 = .ok (.getfield 22, 3) := by decide +kernel
theorem dX2_takeDigits_32 : decode cX2_takeDigits 32 = .ok (.iaload, 1) := by decide +kernel
theorem dX2_takeDigits_33 : decode cX2_takeDigits 33 = .ok (.invokestatic 123, 3) := by decide +kernel
theorem dX2_takeDigits_36 : decode cX2_takeDigits 36 = .ok (.ifCond .eq 40, 3) := by decide +kernel
theorem dX2_takeDigits_39 : decode cX2_takeDigits 39 = .ok (.aload_n 0, 1) := by decide +kernel
theorem dX2_takeDigits_40 : decode cX2_takeDigits 40 = .ok (.aload_n 0, 1) := by decide +kernel
theorem dX2_takeDigits_41 : decode cX2_takeDigits 41 = .ok (.getfield 56, 3) := by decide +kernel
theorem dX2_takeDigits_44 : decode cX2_takeDigits 44 = .ok (.bipush 10, 2) := by decide +kernel
theorem dX2_takeDigits_46 : decode cX2_takeDigits 46 = .ok (.imul, 1) := by decide +kernel
theorem dX2_takeDigits_47 : decode cX2_takeDigits 47 = .ok (.aload_n 0, 1) := by decide +kernel
theorem dX2_takeDigits_48 : decode cX2_takeDigits 48 = .ok (.getfield 9, 3) := by decide +kernel
theorem dX2_takeDigits_51 : decode cX2_takeDigits 51 = .ok (.aload_n 0, 1) := by decide +kernel
theorem dX2_takeDigits_52 : decode cX2_takeDigits 52 = .ok (.getfield 22, 3) := by decide +kernel
theorem dX2_takeDigits_55 : decode cX2_takeDigits 55 = .ok (.iaload, 1) := by decide +kernel
theorem dX2_takeDigits_56 : decode cX2_takeDigits 56 = .ok (.iadd, 1) := by decide +kernel
theorem dX2_takeDigits_57 : decode cX2_takeDigits 57 = .ok (.bipush 48, 2) := by decide +kernel
theorem dX2_takeDigits_59 : decode cX2_takeDigits 59 = .ok (.isub, 1) := by decide +kernel
theorem dX2_takeDigits_60 : decode cX2_takeDigits 60 = .ok (.putfield 56, 3) := by decide +kernel
theorem dX2_takeDigits_63 : decode cX2_takeDigits 63 = .ok (.aload_n 0, 1) := by decide +kernel
theorem dX2_takeDigits_64 : decode cX2_takeDigits 64 = .ok (.dup, 1) := by decide +kernel
theorem dX2_takeDigits_65 : decode cX2_takeDigits 65 = .ok (.getfield 22, 3) := by decide +kernel
theorem dX2_takeDigits_68 : decode cX2_takeDigits 68 = .ok (.iconst 1, 1) := by decide +kernel
theorem dX2_takeDigits_69 : decode cX2_takeDigits 69 = .ok (.iadd, 1) := by decide +kernel
theorem dX2_takeDigits_70 : decode cX2_takeDigits 70 = .ok (.putfield 22, 3) := by decide +kernel
theorem dX2_takeDigits_73 : decode cX2_takeDigits 73 = .ok (.goto (-60), 3) := by decide +kernel
theorem dX2_takeDigits_76 : decode cX2_takeDigits 76 = .ok (.aload_n 0, 1) := by decide +kernel
theorem dX2_takeDigits_77 : decode cX2_takeDigits 77 = .ok (.iload_n 1, 1) := by decide +kernel
theorem dX2_takeDigits_78 : decode cX2_takeDigits 78 = .ok (.ifCond .ne 16, 3) := by decide +kernel
theorem dX2_takeDigits_81 : decode cX2_takeDigits 81 = .ok (.aload_n 0, 1) := by decide +kernel
theorem dX2_takeDigits_82 : decode cX2_takeDigits 82 = .ok (.getfield 22, 3) := by decide +kernel
theorem dX2_takeDigits_85 : decode cX2_takeDigits 85 = .ok (.aload_n 0, 1) := by decide +kernel
theorem dX2_takeDigits_86 : decode cX2_takeDigits 86 = .ok (.getfield 86, 3) := by decide +kernel
theorem dX2_takeDigits_89 : decode cX2_takeDigits 89 = .ok (.isub, 1) := by decide +kernel
theorem dX2_takeDigits_90 : decode cX2_takeDigits 90 = .ok (.iconst 4, 1) := by decide +kernel
theorem dX2_takeDigits_91 : decode cX2_takeDigits 91 = .ok (.if_icmp .le 7, 3) := by decide +kernel
theorem dX2_takeDigits_94 : decode cX2_takeDigits 94 = .ok (.iconst 4, 1) := by decide +kernel
theorem dX2_takeDigits_95 : decode cX2_takeDigits 95 = .ok (.goto 4, 3) := by decide +kernel
theorem dX2_takeDigits_98 : decode cX2_takeDigits 98 = .ok (.iconst 2, 1) := by decide +kernel
theorem dX2_takeDigits_99 : decode cX2_takeDigits 99 = .ok (.putfield 25, 3) := by decide +kernel
theorem dX2_takeDigits_102 : decode cX2_takeDigits 102 = .ok (.return_, 1) := by decide +kernel
theorem dX2_isLetter_0 : decode cX2_isLetter 0 = .ok (.iload_n 0, 1) := by decide +kernel
theorem dX2_isLetter_1 : decode cX2_isLetter 1 = .ok (.bipush 97, 2) := by decide +kernel
theorem dX2_isLetter_3 : decode cX2_isLetter 3 = .ok (.if_icmp .lt 13, 3) := by decide +kernel
theorem dX2_isLetter_6 : decode cX2_isLetter 6 = .ok (.iload_n 0, 1) := by decide +kernel
theorem dX2_isLetter_7 : decode cX2_isLetter 7 = .ok (.bipush 122, 2) := by decide +kernel
theorem dX2_isLetter_9 : decode cX2_isLetter 9 = .ok (.if_icmp .gt 7, 3) := by decide +kernel
theorem dX2_isLetter_12 : decode cX2_isLetter 12 = .ok (.iconst 1, 1) := by decide +kernel
theorem dX2_isLetter_13 : decode cX2_isLetter 13 = .ok (.goto 4, 3) := by decide +kernel
theorem dX2_isLetter_16 : decode cX2_isLetter 16 = .ok (.iconst 0, 1) := by decide +kernel
theorem dX2_isLetter_17 : decode cX2_isLetter 17 = .ok (.ireturn, 1) := by decide +kernel
theorem dX2_isDigit_0 : decode cX2_isDigit 0 = .ok (.iload_n 0, 1) := by decide +kernel
theorem dX2_isDigit_1 : decode cX2_isDigit 1 = .ok (.bipush 48, 2) := by decide +kernel
theorem dX2_isDigit_3 : decode cX2_isDigit 3 = .ok (.if_icmp .lt 13, 3) := by decide +kernel
theorem dX2_isDigit_6 : decode cX2_isDigit 6 = .ok (.iload_n 0, 1) := by decide +kernel
theorem dX2_isDigit_7 : decode cX2_isDigit 7 = .ok (.bipush 57, 2) := by decide +kernel
theorem dX2_isDigit_9 : decode cX2_isDigit 9 = .ok (.if_icmp .gt 7, 3) := by decide +kernel
theorem dX2_isDigit_12 : decode cX2_isDigit 12 = .ok (.iconst 1, 1) := by decide +kernel
theorem dX2_isDigit_13 : decode cX2_isDigit 13 = .ok (.goto 4, 3) := by decide +kernel
theorem dX2_isDigit_16 : decode cX2_isDigit 16 = .ok (.iconst 0, 1) := by decide +kernel
theorem dX2_isDigit_17 : decode cX2_isDigit 17 = .ok (.ireturn, 1) := by decide +kernel
theorem dX3_init_0 : decode cX3_init 0 = .ok (.aload_n 0, 1) := by decide +kernel
theorem dX3_init_1 : decode cX3_init 1 = .ok (.invokespecial 3, 3) := by decide +kernel
theorem dX3_init_4 : decode cX3_init 4 = .ok (.aload_n 0, 1) := by decide +kernel
theorem dX3_init_5 : decode cX3_init 5 = .ok (.bipush 24, 2) := by decide +kernel
theorem dX3_init_7 : decode cX3_init 7 = .ok (.newarray .int, 2) := by decide +kernel
theorem dX3_init_9 : decode cX3_init 9 = .ok (.putfield 9, 3) := by decide +kernel
theorem dX3_init_12 : decode cX3_init 12 = .ok (.aload_n 0, 1) := by decide +kernel
theorem dX3_init_13 : decode cX3_init 13 = .ok (.iconst (-1), 1) := by decide +kernel
theorem dX3_init_14 : decode cX3_init 14 = .ok (.putfield 15, 3) := by decide +kernel
theorem dX3_init_17 : decode cX3_init 17 = .ok (.return_, 1) := by decide +kernel
theorem dX3_renew_0 : decode cX3_renew 0 = .ok (.aload_n 0, 1) := by decide +kernel
theorem dX3_renew_1 : decode cX3_renew 1 = .ok (.iload_n 1, 1) := by decide +kernel
theorem dX3_renew_2 : decode cX3_renew 2 = .ok (.putfield 15, 3) := by decide +kernel
theorem dX3_renew_5 : decode cX3_renew 5 = .ok (.aload_n 0, 1) := by decide +kernel
theorem dX3_renew_6 : decode cX3_renew 6 = .ok (.iload_n 2, 1) := by decide +kernel
theorem dX3_renew_7 : decode cX3_renew 7 = .ok (.putfield 19, 3) := by decide +kernel
theorem dX3_renew_10 : decode cX3_renew 10 = .ok (.iconst 0, 1) := by decide +kernel
theorem dX3_renew_11 : decode cX3_renew 11 = .ok (.istore_n 3, 1) := by decide +kernel
theorem dX3_renew_12 : decode cX3_renew 12 = .ok (.iload_n 3, 1) := by decide +kernel
theorem dX3_renew_13 : decode cX3_renew 13 = .ok (.bipush 24, 2) := by decide +kernel
theorem dX3_renew_15 : decode cX3_renew 15 = .ok (.if_icmp .ge 16, 3) := by decide +kernel
theorem dX3_renew_18 : decode cX3_renew 18 = .ok (.aload_n 0, 1) := by decide +kernel
theorem dX3_renew_19 : decode cX3_renew 19 = .ok (.getfield 9, 3) := by decide +kernel
theorem dX3_renew_22 : decode cX3_renew 22 = .ok (.iload_n 3, 1) := by decide +kernel
theorem dX3_renew_23 : decode cX3_renew 23 = .ok (.iconst 0, 1) := by decide +kernel
theorem dX3_renew_24 : decode cX3_renew 24 = .ok (.iastore, 1) := by decide +kernel
theorem dX3_renew_25 : decode cX3_renew 25 = .ok (.iinc 3 1, 3) := by decide +kernel
theorem dX3_renew_28 : decode cX3_renew 28 = .ok (.goto (-16), 3) := by decide +kernel
theorem dX3_renew_31 : decode cX3_renew 31 = .ok (.return_, 1) := by decide +kernel
theorem dX3_become_0 : decode cX3_become 0 = .ok (.aload_n 0, 1) := by decide +kernel
theorem dX3_become_1 : decode cX3_become 1 = .ok (.aload_n 1, 1) := by decide +kernel
theorem dX3_become_2 : decode cX3_become 2 = .ok (.getfield 15, 3) := by decide +kernel
theorem dX3_become_5 : decode cX3_become 5 = .ok (.putfield 15, 3) := by decide +kernel
theorem dX3_become_8 : decode cX3_become 8 = .ok (.aload_n 0, 1) := by decide +kernel
theorem dX3_become_9 : decode cX3_become 9 = .ok (.aload_n 1, 1) := by decide +kernel
theorem dX3_become_10 : decode cX3_become 10 = .ok (.getfield 19, 3) := by decide +kernel
theorem dX3_become_13 : decode cX3_become 13 = .ok (.putfield 19, 3) := by decide +kernel
theorem dX3_become_16 : decode cX3_become 16 = .ok (.aload_n 1, 1) := by decide +kernel
theorem dX3_become_17 : decode cX3_become 17 = .ok (.getfield 9, 3) := by decide +kernel
theorem dX3_become_20 : decode cX3_become 20 = .ok (.iconst 0, 1) := by decide +kernel
theorem dX3_become_21 : decode cX3_become 21 = .ok (.aload_n 0, 1) := by decide +kernel
theorem dX3_become_22 : decode cX3_become 22 = .ok (.getfield 9, 3) := by decide +kernel
theorem dX3_become_25 : decode cX3_become 25 = .ok (.iconst 0, 1) := by decide +kernel
theorem dX3_become_26 : decode cX3_become 26 = .ok (.bipush 24, 2) := by decide +kernel
theorem dX3_become_28 : decode cX3_become 28 = .ok (.invokestatic 22, 3) := by decide +kernel
theorem dX3_become_31 : decode cX3_become 31 = .ok (.return_, 1) := by decide +kernel
theorem dX3_hasPlace_0 : decode cX3_hasPlace 0 = .ok (.iload_n 1, 1) := by decide +kernel
theorem dX3_hasPlace_1 : decode cX3_hasPlace 1 = .ok (.iconst 0, 1) := by decide +kernel
theorem dX3_hasPlace_2 : decode cX3_hasPlace 2 = .ok (.aload_n 0, 1) := by decide +kernel
theorem dX3_hasPlace_3 : decode cX3_hasPlace 3 = .ok (.getfield 19, 3) := by decide +kernel
theorem dX3_hasPlace_6 : decode cX3_hasPlace 6 = .ok (.iconst 1, 1) := by decide +kernel
theorem dX3_hasPlace_7 : decode cX3_hasPlace 7 = .ok (.isub, 1) := by decide +kernel
theorem dX3_hasPlace_8 : decode cX3_hasPlace 8 = .ok (.invokestatic 28, 3) := by decide +kernel
theorem dX3_hasPlace_11 : decode cX3_hasPlace 11 = .ok (.ireturn, 1) := by decide +kernel
theorem dX3_hasRun_0 : decode cX3_hasRun 0 = .ok (.iload_n 2, 1) := by decide +kernel
theorem dX3_hasRun_1 : decode cX3_hasRun 1 = .ok (.iconst 0, 1) := by decide +kernel
theorem dX3_hasRun_2 : decode cX3_hasRun 2 = .ok (.aload_n 0, 1) := by decide +kernel
theorem dX3_hasRun_3 : decode cX3_hasRun 3 = .ok (.getfield 19, 3) := by decide +kernel
theorem dX3_hasRun_6 : decode cX3_hasRun 6 = .ok (.invokestatic 28, 3) := by decide +kernel
theorem dX3_hasRun_9 : decode cX3_hasRun 9 = .ok (.ifCond .eq 21, 3) := by decide +kernel
theorem dX3_hasRun_12 : decode cX3_hasRun 12 = .ok (.iload_n 1, 1) := by decide +kernel
theorem dX3_hasRun_13 : decode cX3_hasRun 13 = .ok (.iconst 0, 1) := by decide +kernel
theorem dX3_hasRun_14 : decode cX3_hasRun 14 = .ok (.aload_n 0, 1) := by decide +kernel
theorem dX3_hasRun_15 : decode cX3_hasRun 15 = .ok (.getfield 19, 3) := by decide +kernel
theorem dX3_hasRun_18 : decode cX3_hasRun 18 = .ok (.iload_n 2, 1) := by decide +kernel
theorem dX3_hasRun_19 : decode cX3_hasRun 19 = .ok (.isub, 1) := by decide +kernel
theorem dX3_hasRun_20 : decode cX3_hasRun 20 = .ok (.invokestatic 28, 3) := by decide +kernel
theorem dX3_hasRun_23 : decode cX3_hasRun 23 = .ok (.ifCond .eq 7, 3) := by decide +kernel
theorem dX3_hasRun_26 : decode cX3_hasRun 26 = .ok (.iconst 1, 1) := by decide +kernel
theorem dX3_hasRun_27 : decode cX3_hasRun 27 = .ok (.goto 4, 3) := by decide +kernel
theorem dX3_hasRun_30 : decode cX3_hasRun 30 = .ok (.iconst 0, 1) := by decide +kernel
theorem dX3_hasRun_31 : decode cX3_hasRun 31 = .ok (.ireturn, 1) := by decide +kernel
theorem dX3_isNumber_0 : decode cX3_isNumber 0 = .ok (.aload_n 0, 1) := by decide +kernel
theorem dX3_isNumber_1 : decode cX3_isNumber 1 = .ok (.getfield 9, 3) := by decide +kernel
theorem dX3_isNumber_4 : decode cX3_isNumber 4 = .ok (.iload_n 1, 1) := by decide +kernel
theorem dX3_isNumber_5 : decode cX3_isNumber 5 = .ok (.iaload, 1) := by decide +kernel
theorem dX3_isNumber_6 : decode cX3_isNumber 6 = .ok (.ldc 32, 2) := by decide +kernel
theorem dX3_isNumber_8 : decode cX3_isNumber 8 = .ok (.if_icmp .eq 7, 3) := by decide +kernel
theorem dX3_isNumber_11 : decode cX3_isNumber 11 = .ok (.iconst 1, 1) := by decide +kernel
theorem dX3_isNumber_12 : decode cX3_isNumber 12 = .ok (.goto 4, 3) := by decide +kernel
theorem dX3_isNumber_15 : decode cX3_isNumber 15 = .ok (.iconst 0, 1) := by decide +kernel
theorem dX3_isNumber_16 : decode cX3_isNumber 16 = .ok (.ireturn, 1) := by decide +kernel
theorem dX4_init_0 : decode cX4_init 0 = .ok (.aload_n 0, 1) := by decide +kernel
theorem dX4_init_1 : decode cX4_init 1 = .ok (.invokespecial 3, 3) := by decide +kernel
theorem dX4_init_4 : decode cX4_init 4 = .ok (.aload_n 0, 1) := by decide +kernel
theorem dX4_init_5 : decode cX4_init 5 = .ok (.new 9, 3) := by decide +kernel
theorem dX4_init_8 : decode cX4_init 8 = .ok (.dup, 1) := by decide +kernel
theorem dX4_init_9 : decode cX4_init 9 = .ok (.invokespecial 11, 3) := by decide +kernel
theorem dX4_init_12 : decode cX4_init 12 = .ok (.putfield 12, 3) := by decide +kernel
theorem dX4_init_15 : decode cX4_init 15 = .ok (.aload_n 0, 1) := by decide +kernel
theorem dX4_init_16 : decode cX4_init 16 = .ok (.iconst 0, 1) := by decide +kernel
theorem dX4_init_17 : decode cX4_init 17 = .ok (.putfield 18, 3) := by decide +kernel
theorem dX4_init_20 : decode cX4_init 20 = .ok (.return_, 1) := by decide +kernel
theorem dX5_init_0 : decode cX5_init 0 = .ok (.aload_n 0, 1) := by decide +kernel
theorem dX5_init_1 : decode cX5_init 1 = .ok (.invokespecial 3, 3) := by decide +kernel
theorem dX5_init_4 : decode cX5_init 4 = .ok (.aload_n 0, 1) := by decide +kernel
theorem dX5_init_5 : decode cX5_init 5 = .ok (.bipush 10, 2) := by decide +kernel
theorem dX5_init_7 : decode cX5_init 7 = .ok (.newarray .int, 2) := by decide +kernel
theorem dX5_init_9 : decode cX5_init 9 = .ok (.putfield 9, 3) := by decide +kernel
theorem dX5_init_12 : decode cX5_init 12 = .ok (.aload_n 0, 1) := by decide +kernel
theorem dX5_init_13 : decode cX5_init 13 = .ok (.bipush 10, 2) := by decide +kernel
theorem dX5_init_15 : decode cX5_init 15 = .ok (.newarray .int, 2) := by decide +kernel
theorem dX5_init_17 : decode cX5_init 17 = .ok (.putfield 15, 3) := by decide +kernel
theorem dX5_init_20 : decode cX5_init 20 = .ok (.aload_n 0, 1) := by decide +kernel
theorem dX5_init_21 : decode cX5_init 21 = .ok (.bipush 10, 2) := by decide +kernel
theorem dX5_init_23 : decode cX5_init 23 = .ok (.newarray .int, 2) := by decide +kernel
theorem dX5_init_25 : decode cX5_init 25 = .ok (.putfield 18, 3) := by decide +kernel
theorem dX5_init_28 : decode cX5_init 28 = .ok (.aload_n 0, 1) := by decide +kernel
theorem dX5_init_29 : decode cX5_init 29 = .ok (.bipush 10, 2) := by decide +kernel
theorem dX5_init_31 : decode cX5_init 31 = .ok (.newarray .int, 2) := by decide +kernel
theorem dX5_init_33 : decode cX5_init 33 = .ok (.putfield 21, 3) := by decide +kernel
theorem dX5_init_36 : decode cX5_init 36 = .ok (.aload_n 0, 1) := by decide +kernel
theorem dX5_init_37 : decode cX5_init 37 = .ok (.bipush 10, 2) := by decide +kernel
theorem dX5_init_39 : decode cX5_init 39 = .ok (.newarray .int, 2) := by decide +kernel
theorem dX5_init_41 : decode cX5_init 41 = .ok (.putfield 24, 3) := by decide +kernel
theorem dX5_init_44 : decode cX5_init 44 = .ok (.aload_n 0, 1) := by decide +kernel
theorem dX5_init_45 : decode cX5_init 45 = .ok (.bipush 10, 2) := by decide +kernel
theorem dX5_init_47 : decode cX5_init 47 = .ok (.newarray .int, 2) := by decide +kernel
theorem dX5_init_49 : decode cX5_init 49 = .ok (.putfield 27, 3) := by decide +kernel
theorem dX5_init_52 : decode cX5_init 52 = .ok (.aload_n 0, 1) := by decide +kernel
theorem dX5_init_53 : decode cX5_init 53 = .ok (.bipush 6, 2) := by decide +kernel
theorem dX5_init_55 : decode cX5_init 55 = .ok (.newarray .int, 2) := by decide +kernel
theorem dX5_init_57 : decode cX5_init 57 = .ok (.putfield 30, 3) := by decide +kernel
theorem dX5_init_60 : decode cX5_init 60 = .ok (.aload_n 0, 1) := by decide +kernel
theorem dX5_init_61 : decode cX5_init 61 = .ok (.bipush 6, 2) := by decide +kernel
theorem dX5_init_63 : decode cX5_init 63 = .ok (.newarray .int, 2) := by decide +kernel
theorem dX5_init_65 : decode cX5_init 65 = .ok (.putfield 33, 3) := by decide +kernel
theorem dX5_init_68 : decode cX5_init 68 = .ok (.aload_n 0, 1) := by decide +kernel
theorem dX5_init_69 : decode cX5_init 69 = .ok (.iconst 3, 1) := by decide +kernel
theorem dX5_init_70 : decode cX5_init 70 = .ok (.newarray .int, 2) := by decide +kernel
theorem dX5_init_72 : decode cX5_init 72 = .ok (.putfield 36, 3) := by decide +kernel
theorem dX5_init_75 : decode cX5_init 75 = .ok (.aload_n 0, 1) := by decide +kernel
theorem dX5_init_76 : decode cX5_init 76 = .ok (.aload_n 1, 1) := by decide +kernel
theorem dX5_init_77 : decode cX5_init 77 = .ok (.putfield 39, 3) := by decide +kernel
theorem dX5_init_80 : decode cX5_init 80 = .ok (.iconst 0, 1) := by decide +kernel
theorem dX5_init_81 : decode cX5_init 81 = .ok (.istore_n 2, 1) := by decide +kernel
theorem dX5_init_82 : decode cX5_init 82 = .ok (.iload_n 2, 1) := by decide +kernel
theorem dX5_init_83 : decode cX5_init 83 = .ok (.bipush 6, 2) := by decide +kernel
theorem dX5_init_85 : decode cX5_init 85 = .ok (.if_icmp .ge 24, 3) := by decide +kernel
theorem dX5_init_88 : decode cX5_init 88 = .ok (.aload_n 0, 1) := by decide +kernel
theorem dX5_init_89 : decode cX5_init 89 = .ok (.getfield 30, 3) := by decide +kernel
theorem dX5_init_92 : decode cX5_init 92 = .ok (.iload_n 2, 1) := by decide +kernel
theorem dX5_init_93 : decode cX5_init 93 = .ok (.bipush 100, 2) := by decide +kernel
theorem dX5_init_95 : decode cX5_init 95 = .ok (.iastore, 1) := by decide +kernel
theorem dX5_init_96 : decode cX5_init 96 = .ok (.aload_n 0, 1) := by decide +kernel
theorem dX5_init_97 : decode cX5_init 97 = .ok (.getfield 33, 3) := by decide +kernel
theorem dX5_init_100 : decode cX5_init 100 = .ok (.iload_n 2, 1) := by decide +kernel
theorem dX5_init_101 : decode cX5_init 101 = .ok (.iload_n 2, 1) := by decide +kernel
theorem dX5_init_102 : decode cX5_init 102 = .ok (.iastore, 1) := by decide +kernel
theorem dX5_init_103 : decode cX5_init 103 = .ok (.iinc 2 1, 3) := by decide +kernel
theorem dX5_init_106 : decode cX5_init 106 = .ok (.goto (-24), 3) := by decide +kernel
theorem dX5_init_109 : decode cX5_init 109 = .ok (.iconst 0, 1) := by decide +kernel
theorem dX5_init_110 : decode cX5_init 110 = .ok (.istore_n 2, 1) := by decide +kernel
theorem dX5_init_111 : decode cX5_init 111 = .ok (.iload_n 2, 1) := by decide +kernel
theorem dX5_init_112 : decode cX5_init 112 = .ok (.iconst 3, 1) := by decide +kernel
theorem dX5_init_113 : decode cX5_init 113 = .ok (.if_icmp .ge 16, 3) := by decide +kernel
theorem dX5_init_116 : decode cX5_init 116 = .ok (.aload_n 0, 1) := by decide +kernel
theorem dX5_init_117 : decode cX5_init 117 = .ok (.getfield 36, 3) := by decide +kernel
theorem dX5_init_120 : decode cX5_init 120 = .ok (.iload_n 2, 1) := by decide +kernel
theorem dX5_init_121 : decode cX5_init 121 = .ok (.iconst (-1), 1) := by decide +kernel
theorem dX5_init_122 : decode cX5_init 122 = .ok (.iastore, 1) := by decide +kernel
theorem dX5_init_123 : decode cX5_init 123 = .ok (.iinc 2 1, 3) := by decide +kernel
theorem dX5_init_126 : decode cX5_init 126 = .ok (.goto (-15), 3) := by decide +kernel
theorem dX5_init_129 : decode cX5_init 129 = .ok (.aload_n 0, 1) := by decide +kernel
theorem dX5_init_130 : decode cX5_init 130 = .ok (.iconst 1, 1) := by decide +kernel
theorem dX5_init_131 : decode cX5_init 131 = .ok (.putfield 43, 3) := by decide +kernel
theorem dX5_init_134 : decode cX5_init 134 = .ok (.return_, 1) := by decide +kernel
theorem dX5_become_0 : decode cX5_become 0 = .ok (.aload_n 1, 1) := by decide +kernel
theorem dX5_become_1 : decode cX5_become 1 = .ok (.getfield 9, 3) := by decide +kernel
theorem dX5_become_4 : decode cX5_become 4 = .ok (.iconst 0, 1) := by decide +kernel
theorem dX5_become_5 : decode cX5_become 5 = .ok (.aload_n 0, 1) := by decide +kernel
theorem dX5_become_6 : decode cX5_become 6 = .ok (.getfield 9, 3) := by decide +kernel
theorem dX5_become_9 : decode cX5_become 9 = .ok (.iconst 0, 1) := by decide +kernel
theorem dX5_become_10 : decode cX5_become 10 = .ok (.bipush 10, 2) := by decide +kernel
theorem dX5_become_12 : decode cX5_become 12 = .ok (.invokestatic 47, 3) := by decide +kernel
theorem dX5_become_15 : decode cX5_become 15 = .ok (.aload_n 1, 1) := by decide +kernel
theorem dX5_become_16 : decode cX5_become 16 = .ok (.getfield 15, 3) := by decide +kernel
theorem dX5_become_19 : decode cX5_become 19 = .ok (.iconst 0, 1) := by decide +kernel
theorem dX5_become_20 : decode cX5_become 20 = .ok (.aload_n 0, 1) := by decide +kernel
theorem dX5_become_21 : decode cX5_become 21 = .ok (.getfield 15, 3) := by decide +kernel
theorem dX5_become_24 : decode cX5_become 24 = .ok (.iconst 0, 1) := by decide +kernel
theorem dX5_become_25 : decode cX5_become 25 = .ok (.bipush 10, 2) := by decide +kernel
theorem dX5_become_27 : decode cX5_become 27 = .ok (.invokestatic 47, 3) := by decide +kernel
theorem dX5_become_30 : decode cX5_become 30 = .ok (.aload_n 1, 1) := by decide +kernel
theorem dX5_become_31 : decode cX5_become 31 = .ok (.getfield 18, 3) := by decide +kernel
theorem dX5_become_34 : decode cX5_become 34 = .ok (.iconst 0, 1) := by decide +kernel
theorem dX5_become_35 : decode cX5_become 35 = .ok (.aload_n 0, 1) := by decide +kernel
theorem dX5_become_36 : decode cX5_become 36 = .ok (.getfield 18, 3) := by decide +kernel
theorem dX5_become_39 : decode cX5_become 39 = .ok (.iconst 0, 1) := by decide +kernel
theorem dX5_become_40 : decode cX5_become 40 = .ok (.bipush 10, 2) := by decide +kernel
theorem dX5_become_42 : decode cX5_become 42 = .ok (.invokestatic 47, 3) := by decide +kernel
theorem dX5_become_45 : decode cX5_become 45 = .ok (.aload_n 1, 1) := by decide +kernel
theorem dX5_become_46 : decode cX5_become 46 = .ok (.getfield 21, 3) := by decide +kernel
theorem dX5_become_49 : decode cX5_become 49 = .ok (.iconst 0, 1) := by decide +kernel
theorem dX5_become_50 : decode cX5_become 50 = .ok (.aload_n 0, 1) := by decide +kernel
theorem dX5_become_51 : decode cX5_become 51 = .ok (.getfield 21, 3) := by decide +kernel
theorem dX5_become_54 : decode cX5_become 54 = .ok (.iconst 0, 1) := by decide +kernel
theorem dX5_become_55 : decode cX5_become 55 = .ok (.bipush 10, 2) := by decide +kernel
theorem dX5_become_57 : decode cX5_become 57 = .ok (.invokestatic 47, 3) := by decide +kernel
theorem dX5_become_60 : decode cX5_become 60 = .ok (.aload_n 1, 1) := by decide +kernel
theorem dX5_become_61 : decode cX5_become 61 = .ok (.getfield 24, 3) := by decide +kernel
theorem dX5_become_64 : decode cX5_become 64 = .ok (.iconst 0, 1) := by decide +kernel
theorem dX5_become_65 : decode cX5_become 65 = .ok (.aload_n 0, 1) := by decide +kernel
theorem dX5_become_66 : decode cX5_become 66 = .ok (.getfield 24, 3) := by decide +kernel
theorem dX5_become_69 : decode cX5_become 69 = .ok (.iconst 0, 1) := by decide +kernel
theorem dX5_become_70 : decode cX5_become 70 = .ok (.bipush 10, 2) := by decide +kernel
theorem dX5_become_72 : decode cX5_become 72 = .ok (.invokestatic 47, 3) := by decide +kernel
theorem dX5_become_75 : decode cX5_become 75 = .ok (.aload_n 1, 1) := by decide +kernel
theorem dX5_become_76 : decode cX5_become 76 = .ok (.getfield 27, 3) := by decide +kernel
theorem dX5_become_79 : decode cX5_become 79 = .ok (.iconst 0, 1) := by decide +kernel
theorem dX5_become_80 : decode cX5_become 80 = .ok (.aload_n 0, 1) := by decide +kernel
theorem dX5_become_81 : decode cX5_become 81 = .ok (.getfield 27, 3) := by decide +kernel
theorem dX5_become_84 : decode cX5_become 84 = .ok (.iconst 0, 1) := by decide +kernel
theorem dX5_become_85 : decode cX5_become 85 = .ok (.bipush 10, 2) := by decide +kernel
theorem dX5_become_87 : decode cX5_become 87 = .ok (.invokestatic 47, 3) := by decide +kernel
theorem dX5_become_90 : decode cX5_become 90 = .ok (.aload_n 1, 1) := by decide +kernel
theorem dX5_become_91 : decode cX5_become 91 = .ok (.getfield 30, 3) := by decide +kernel
theorem dX5_become_94 : decode cX5_become 94 = .ok (.iconst 0, 1) := by decide +kernel
theorem dX5_become_95 : decode cX5_become 95 = .ok (.aload_n 0, 1) := by decide +kernel
theorem dX5_become_96 : decode cX5_become 96 = .ok (.getfield 30, 3) := by decide +kernel
theorem dX5_become_99 : decode cX5_become 99 = .ok (.iconst 0, 1) := by decide +kernel
theorem dX5_become_100 : decode cX5_become 100 = .ok (.bipush 6, 2) := by decide +kernel
theorem dX5_become_102 : decode cX5_become 102 = .ok (.invokestatic 47, 3) := by decide +kernel
theorem dX5_become_105 : decode cX5_become 105 = .ok (.aload_n 1, 1) := by decide +kernel
theorem dX5_become_106 : decode cX5_become 106 = .ok (.getfield 33, 3) := by decide +kernel
theorem dX5_become_109 : decode cX5_become 109 = .ok (.iconst 0, 1) := by decide +kernel
theorem dX5_become_110 : decode cX5_become 110 = .ok (.aload_n 0, 1) := by decide +kernel
theorem dX5_become_111 : decode cX5_become 111 = .ok (.getfield 33, 3) := by decide +kernel
theorem dX5_become_114 : decode cX5_become 114 = .ok (.iconst 0, 1) := by decide +kernel
theorem dX5_become_115 : decode cX5_become 115 = .ok (.bipush 6, 2) := by decide +kernel
theorem dX5_become_117 : decode cX5_become 117 = .ok (.invokestatic 47, 3) := by decide +kernel
theorem dX5_become_120 : decode cX5_become 120 = .ok (.aload_n 1, 1) := by decide +kernel
theorem dX5_become_121 : decode cX5_become 121 = .ok (.getfield 36, 3) := by decide +kernel
theorem dX5_become_124 : decode cX5_become 124 = .ok (.iconst 0, 1) := by decide +kernel
theorem dX5_become_125 : decode cX5_become 125 = .ok (.aload_n 0, 1) := by decide +kernel
theorem dX5_become_126 : decode cX5_become 126 = .ok (.getfield 36, 3) := by decide +kernel
theorem dX5_become_129 : decode cX5_become 129 = .ok (.iconst 0, 1) := by decide +kernel
theorem dX5_become_130 : decode cX5_become 130 = .ok (.iconst 3, 1) := by decide +kernel
theorem dX5_become_131 : decode cX5_become 131 = .ok (.invokestatic 47, 3) := by decide +kernel
theorem dX5_become_134 : decode cX5_become 134 = .ok (.aload_n 0, 1) := by decide +kernel
theorem dX5_become_135 : decode cX5_become 135 = .ok (.aload_n 1, 1) := by decide +kernel
theorem dX5_become_136 : decode cX5_become 136 = .ok (.getfield 53, 3) := by decide +kernel
theorem dX5_become_139 : decode cX5_become 139 = .ok (.putfield 53, 3) := by decide +kernel
theorem dX5_become_142 : decode cX5_become 142 = .ok (.aload_n 0, 1) := by decide +kernel
theorem dX5_become_143 : decode cX5_become 143 = .ok (.aload_n 1, 1) := by decide +kernel
theorem dX5_become_144 : decode cX5_become 144 = .ok (.getfield 56, 3) := by decide +kernel
theorem dX5_become_147 : decode cX5_become 147 = .ok (.putfield 56, 3) := by decide +kernel
theorem dX5_become_150 : decode cX5_become 150 = .ok (.aload_n 0, 1) := by decide +kernel
theorem dX5_become_151 : decode cX5_become 151 = .ok (.aload_n 1, 1) := by decide +kernel
theorem dX5_become_152 : decode cX5_become 152 = .ok (.getfield 59, 3) := by decide +kernel
theorem dX5_become_155 : decode cX5_become 155 = .ok (.putfield 59, 3) := by decide +kernel
theorem dX5_become_158 : decode cX5_become 158 = .ok (.aload_n 0, 1) := by decide +kernel
theorem dX5_become_159 : decode cX5_become 159 = .ok (.aload_n 1, 1) := by decide +kernel
theorem dX5_become_160 : decode cX5_become 160 = .ok (.getfield 62, 3) := by decide +kernel
theorem dX5_become_163 : decode cX5_become 163 = .ok (.putfield 62, 3) := by decide +kernel
theorem dX5_become_166 : decode cX5_become 166 = .ok (.aload_n 0, 1) := by decide +kernel
theorem dX5_become_167 : decode cX5_become 167 = .ok (.aload_n 1, 1) := by decide +kernel
theorem dX5_become_168 : decode cX5_become 168 = .ok (.getfield 65, 3) := by decide +kernel
theorem dX5_become_171 : decode cX5_become 171 = .ok (.putfield 65, 3) := by decide +kernel
theorem dX5_become_174 : decode cX5_become 174 = .ok (.aload_n 0, 1) := by decide +kernel
theorem dX5_become_175 : decode cX5_become 175 = .ok (.aload_n 1, 1) := by decide +kernel
theorem dX5_become_176 : decode cX5_become 176 = .ok (.getfield 43, 3) := by decide +kernel
theorem dX5_become_179 : decode cX5_become 179 = .ok (.putfield 43, 3) := by decide +kernel
theorem dX5_become_182 : decode cX5_become 182 = .ok (.return_, 1) := by decide +kernel
theorem dX5_addDay_0 : decode cX5_addDay 0 = .ok (.aload_n 0, 1) := by decide +kernel
theorem dX5_addDay_1 : decode cX5_addDay 1 = .ok (.getfield 53, 3) := by decide +kernel
theorem dX5_addDay_4 : decode cX5_addDay 4 = .ok (.istore 5, 2) := by decide +kernel
theorem dX5_addDay_6 : decode cX5_addDay 6 = .ok (.iload 5, 2) := by decide +kernel
theorem dX5_addDay_8 : decode cX5_addDay 8 = .ok (.bipush 10, 2) := by decide +kernel
theorem dX5_addDay_10 : decode cX5_addDay 10 = .ok (.if_icmp .lt 6, 3) := by decide +kernel
theorem dX5_addDay_13 : decode cX5_addDay 13 = .ok (.ldc 68, 2) := by decide +kernel
theorem dX5_addDay_15 : decode cX5_addDay 15 = .ok (.ireturn, 1) := by decide +kernel
theorem dX5_addDay_16 : decode cX5_addDay 16 = .ok (.aload_n 0, 1) := by decide +kernel
theorem dX5_addDay_17 : decode cX5_addDay 17 = .ok (.getfield 9, 3) := by decide +kernel
theorem dX5_addDay_20 : decode cX5_addDay 20 = .ok (.iload 5, 2) := by decide +kernel
theorem dX5_addDay_22 : decode cX5_addDay 22 = .ok (.iload_n 1, 1) := by decide +kernel
theorem dX5_addDay_23 : decode cX5_addDay 23 = .ok (.iastore, 1) := by decide +kernel
theorem dX5_addDay_24 : decode cX5_addDay 24 = .ok (.aload_n 0, 1) := by decide +kernel
theorem dX5_addDay_25 : decode cX5_addDay 25 = .ok (.getfield 15, 3) := by decide +kernel
theorem dX5_addDay_28 : decode cX5_addDay 28 = .ok (.iload 5, 2) := by decide +kernel
theorem dX5_addDay_30 : decode cX5_addDay 30 = .ok (.iload_n 2, 1) := by decide +kernel
theorem dX5_addDay_31 : decode cX5_addDay 31 = .ok (.iastore, 1) := by decide +kernel
theorem dX5_addDay_32 : decode cX5_addDay 32 = .ok (.aload_n 0, 1) := by decide +kernel
theorem dX5_addDay_33 : decode cX5_addDay 33 = .ok (.getfield 18, 3) := by decide +kernel
theorem dX5_addDay_36 : decode cX5_addDay 36 = .ok (.iload 5, 2) := by decide +kernel
theorem dX5_addDay_38 : decode cX5_addDay 38 = .ok (.iload_n 3, 1) := by decide +kernel
theorem dX5_addDay_39 : decode cX5_addDay 39 = .ok (.iastore, 1) := by decide +kernel
theorem dX5_addDay_40 : decode cX5_addDay 40 = .ok (.aload_n 0, 1) := by decide +kernel
theorem dX5_addDay_41 : decode cX5_addDay 41 = .ok (.getfield 21, 3) := by decide +kernel
theorem dX5_addDay_44 : decode cX5_addDay 44 = .ok (.iload 5, 2) := by decide +kernel
theorem dX5_addDay_46 : decode cX5_addDay 46 = .ok (.iconst 0, 1) := by decide +kernel
theorem dX5_addDay_47 : decode cX5_addDay 47 = .ok (.iastore, 1) := by decide +kernel
theorem dX5_addDay_48 : decode cX5_addDay 48 = .ok (.aload_n 0, 1) := by decide +kernel
theorem dX5_addDay_49 : decode cX5_addDay 49 = .ok (.getfield 24, 3) := by decide +kernel
theorem dX5_addDay_52 : decode cX5_addDay 52 = .ok (.iload 5, 2) := by decide +kernel
theorem dX5_addDay_54 : decode cX5_addDay 54 = .ok (.iload 4, 2) := by decide +kernel
theorem dX5_addDay_56 : decode cX5_addDay 56 = .ok (.iastore, 1) := by decide +kernel
theorem dX5_addDay_57 : decode cX5_addDay 57 = .ok (.aload_n 0, 1) := by decide +kernel
theorem dX5_addDay_58 : decode cX5_addDay 58 = .ok (.getfield 27, 3) := by decide +kernel
theorem dX5_addDay_61 : decode cX5_addDay 61 = .ok (.iload 5, 2) := by decide +kernel
theorem dX5_addDay_63 : decode cX5_addDay 63 = .ok (.iconst 1, 1) := by decide +kernel
theorem dX5_addDay_64 : decode cX5_addDay 64 = .ok (.iload 4, 2) := by decide +kernel
theorem dX5_addDay_66 : decode cX5_addDay 66 = .ok (.ishl, 1) := by decide +kernel
theorem dX5_addDay_67 : decode cX5_addDay 67 = .ok (.iastore, 1) := by decide +kernel
theorem dX5_addDay_68 : decode cX5_addDay 68 = .ok (.aload_n 0, 1) := by decide +kernel
theorem dX5_addDay_69 : decode cX5_addDay 69 = .ok (.iload 5, 2) := by decide +kernel
theorem dX5_addDay_71 : decode cX5_addDay 71 = .ok (.iconst 1, 1) := by decide +kernel
theorem dX5_addDay_72 : decode cX5_addDay 72 = .ok (.iadd, 1) := by decide +kernel
theorem dX5_addDay_73 : decode cX5_addDay 73 = .ok (.putfield 53, 3) := by decide +kernel
theorem dX5_addDay_76 : decode cX5_addDay 76 = .ok (.iload 5, 2) := by decide +kernel
theorem dX5_addDay_78 : decode cX5_addDay 78 = .ok (.ireturn, 1) := by decide +kernel
theorem dX5_draw_0 : decode cX5_draw 0 = .ok (.aload_n 0, 1) := by decide +kernel
theorem dX5_draw_1 : decode cX5_draw 1 = .ok (.aload_n 0, 1) := by decide +kernel
theorem dX5_draw_2 : decode cX5_draw 2 = .ok (.getfield 43, 3) := by decide +kernel
theorem dX5_draw_5 : decode cX5_draw 5 = .ok (.ldc 69, 2) := by decide +kernel
theorem dX5_draw_7 : decode cX5_draw 7 = .ok (.imul, 1) := by decide +kernel
theorem dX5_draw_8 : decode cX5_draw 8 = .ok (.sipush 12345, 3) := by decide +kernel
theorem dX5_draw_11 : decode cX5_draw 11 = .ok (.iadd, 1) := by decide +kernel
theorem dX5_draw_12 : decode cX5_draw 12 = .ok (.putfield 43, 3) := by decide +kernel
theorem dX5_draw_15 : decode cX5_draw 15 = .ok (.aload_n 0, 1) := by decide +kernel
theorem dX5_draw_16 : decode cX5_draw 16 = .ok (.getfield 43, 3) := by decide +kernel
theorem dX5_draw_19 : decode cX5_draw 19 = .ok (.bipush 8, 2) := by decide +kernel
theorem dX5_draw_21 : decode cX5_draw 21 = .ok (.iushr, 1) := by decide +kernel
theorem dX5_draw_22 : decode cX5_draw 22 = .ok (.ireturn, 1) := by decide +kernel
theorem dX5_drawDay_0 : decode cX5_drawDay 0 = .ok (.aload_n 0, 1) := by decide +kernel
theorem dX5_drawDay_1 : decode cX5_drawDay 1 = .ok (.invokevirtual 70, 3) := by decide +kernel
theorem dX5_drawDay_4 : decode cX5_drawDay 4 = .ok (.bipush 6, 2) := by decide +kernel
theorem dX5_drawDay_6 : decode cX5_drawDay 6 = .ok (.irem, 1) := by decide +kernel
theorem dX5_drawDay_7 : decode cX5_drawDay 7 = .ok (.istore_n 1, 1) := by decide +kernel
theorem dX5_drawDay_8 : decode cX5_drawDay 8 = .ok (.aload_n 0, 1) := by decide +kernel
theorem dX5_drawDay_9 : decode cX5_drawDay 9 = .ok (.invokevirtual 70, 3) := by decide +kernel
theorem dX5_drawDay_12 : decode cX5_drawDay 12 = .ok (.bipush 100, 2) := by decide +kernel
theorem dX5_drawDay_14 : decode cX5_drawDay 14 = .ok (.irem, 1) := by decide +kernel
theorem dX5_drawDay_15 : decode cX5_drawDay 15 = .ok (.istore_n 2, 1) := by decide +kernel
theorem dX5_drawDay_16 : decode cX5_drawDay 16 = .ok (.aload_n 0, 1) := by decide +kernel
theorem dX5_drawDay_17 : decode cX5_drawDay 17 = .ok (.invokevirtual 70, 3) := by decide +kernel
theorem dX5_drawDay_20 : decode cX5_drawDay 20 = .ok (.bipush 10, 2) := by decide +kernel
theorem dX5_drawDay_22 : decode cX5_drawDay 22 = .ok (.irem, 1) := by decide +kernel
theorem dX5_drawDay_23 : decode cX5_drawDay 23 = .ok (.istore_n 3, 1) := by decide +kernel
theorem dX5_drawDay_24 : decode cX5_drawDay 24 = .ok (.aload_n 0, 1) := by decide +kernel
theorem dX5_drawDay_25 : decode cX5_drawDay 25 = .ok (.invokevirtual 70, 3) := by decide +kernel
theorem dX5_drawDay_28 : decode cX5_drawDay 28 = .ok (.bipush 6, 2) := by decide +kernel
theorem dX5_drawDay_30 : decode cX5_drawDay 30 = .ok (.irem, 1) := by decide +kernel
theorem dX5_drawDay_31 : decode cX5_drawDay 31 = .ok (.istore 4, 2) := by decide +kernel
theorem dX5_drawDay_33 : decode cX5_drawDay 33 = .ok (.aload_n 0, 1) := by decide +kernel
theorem dX5_drawDay_34 : decode cX5_drawDay 34 = .ok (.iload_n 1, 1) := by decide +kernel
theorem dX5_drawDay_35 : decode cX5_drawDay 35 = .ok (.iload_n 2, 1) := by decide +kernel
theorem dX5_drawDay_36 : decode cX5_drawDay 36 = .ok (.iload_n 3, 1) := by decide +kernel
theorem dX5_drawDay_37 : decode cX5_drawDay 37 = .ok (.iload 4, 2) := by decide +kernel
theorem dX5_drawDay_39 : decode cX5_drawDay 39 = .ok (.invokevirtual 74, 3) := by decide +kernel
theorem dX5_drawDay_42 : decode cX5_drawDay 42 = .ok (.pop, 1) := by decide +kernel
theorem dX5_drawDay_43 : decode cX5_drawDay 43 = .ok (.return_, 1) := by decide +kernel
theorem dX5_daysOf_0 : decode cX5_daysOf 0 = .ok (.iconst 0, 1) := by decide +kernel
theorem dX5_daysOf_1 : decode cX5_daysOf 1 = .ok (.istore_n 2, 1) := by decide +kernel
theorem dX5_daysOf_2 : decode cX5_daysOf 2 = .ok (.iconst 0, 1) := by decide +kernel
theorem dX5_daysOf_3 : decode cX5_daysOf 3 = .ok (.istore_n 3, 1) := by decide +kernel
theorem dX5_daysOf_4 : decode cX5_daysOf 4 = .ok (.iload_n 3, 1) := by decide +kernel
theorem dX5_daysOf_5 : decode cX5_daysOf 5 = .ok (.aload_n 0, 1) := by decide +kernel
theorem dX5_daysOf_6 : decode cX5_daysOf 6 = .ok (.getfield 53, 3) := by decide +kernel
theorem dX5_daysOf_9 : decode cX5_daysOf 9 = .ok (.if_icmp .ge 25, 3) := by decide +kernel
theorem dX5_daysOf_12 : decode cX5_daysOf 12 = .ok (.aload_n 0, 1) := by decide +kernel
theorem dX5_daysOf_13 : decode cX5_daysOf 13 = .ok (.getfield 24, 3) := by decide +kernel
theorem dX5_daysOf_16 : decode cX5_daysOf 16 = .ok (.iload_n 3, 1) := by decide +kernel
theorem dX5_daysOf_17 : decode cX5_daysOf 17 = .ok (.iaload, 1) := by decide +kernel
theorem dX5_daysOf_18 : decode cX5_daysOf 18 = .ok (.iload_n 1, 1) := by decide +kernel
theorem dX5_daysOf_19 : decode cX5_daysOf 19 = .ok (.if_icmp .ne 9, 3) := by decide +kernel
theorem dX5_daysOf_22 : decode cX5_daysOf 22 = .ok (.iload_n 2, 1) := by decide +kernel
theorem dX5_daysOf_23 : decode cX5_daysOf 23 = .ok (.iconst 1, 1) := by decide +kernel
theorem dX5_daysOf_24 : decode cX5_daysOf 24 = .ok (.iload_n 3, 1) := by decide +kernel
theorem dX5_daysOf_25 : decode cX5_daysOf 25 = .ok (.ishl, 1) := by decide +kernel
theorem dX5_daysOf_26 : decode cX5_daysOf 26 = .ok (.ior, 1) := by decide +kernel
theorem dX5_daysOf_27 : decode cX5_daysOf 27 = .ok (.istore_n 2, 1) := by decide +kernel
theorem dX5_daysOf_28 : decode cX5_daysOf 28 = .ok (.iinc 3 1, 3) := by decide +kernel
theorem dX5_daysOf_31 : decode cX5_daysOf 31 = .ok (.goto (-27), 3) := by decide +kernel
theorem dX5_daysOf_34 : decode cX5_daysOf 34 = .ok (.iload_n 2, 1) := by decide +kernel
theorem dX5_daysOf_35 : decode cX5_daysOf 35 = .ok (.ireturn, 1) := by decide +kernel
theorem dX5_priceOf_0 : decode cX5_priceOf 0 = .ok (.aload_n 0, 1) := by decide +kernel
theorem dX5_priceOf_1 : decode cX5_priceOf 1 = .ok (.getfield 36, 3) := by decide +kernel
theorem dX5_priceOf_4 : decode cX5_priceOf 4 = .ok (.iconst 0, 1) := by decide +kernel
theorem dX5_priceOf_5 : decode cX5_priceOf 5 = .ok (.iaload, 1) := by decide +kernel
theorem dX5_priceOf_6 : decode cX5_priceOf 6 = .ok (.istore_n 3, 1) := by decide +kernel
theorem dX5_priceOf_7 : decode cX5_priceOf 7 = .ok (.iload_n 3, 1) := by decide +kernel
theorem dX5_priceOf_8 : decode cX5_priceOf 8 = .ok (.ifCond .ge 19, 3) := by decide +kernel
theorem dX5_priceOf_11 : decode cX5_priceOf 11 = .ok (.iconst 0, 1) := by decide +kernel
theorem dX5_priceOf_12 : decode cX5_priceOf 12 = .ok (.bipush 10, 2) := by decide +kernel
theorem dX5_priceOf_14 : decode cX5_priceOf 14 = .ok (.iload_n 2, 1) := by decide +kernel
theorem dX5_priceOf_15 : decode cX5_priceOf 15 = .ok (.imul, 1) := by decide +kernel
theorem dX5_priceOf_16 : decode cX5_priceOf 16 = .ok (.aload_n 0, 1) := by decide +kernel
theorem dX5_priceOf_17 : decode cX5_priceOf 17 = .ok (.getfield 21, 3) := by decide +kernel
theorem dX5_priceOf_20 : decode cX5_priceOf 20 = .ok (.iload_n 1, 1) := by decide +kernel
theorem dX5_priceOf_21 : decode cX5_priceOf 21 = .ok (.iaload, 1) := by decide +kernel
theorem dX5_priceOf_22 : decode cX5_priceOf 22 = .ok (.isub, 1) := by decide +kernel
theorem dX5_priceOf_23 : decode cX5_priceOf 23 = .ok (.invokestatic 78, 3) := by decide +kernel
theorem dX5_priceOf_26 : decode cX5_priceOf 26 = .ok (.ireturn, 1) := by decide +kernel
theorem dX5_priceOf_27 : decode cX5_priceOf 27 = .ok (.aload_n 0, 1) := by decide +kernel
theorem dX5_priceOf_28 : decode cX5_priceOf 28 = .ok (.getfield 39, 3) := by decide +kernel
theorem dX5_priceOf_31 : decode cX5_priceOf 31 = .ok (.iload_n 3, 1) := by decide +kernel
theorem dX5_priceOf_32 : decode cX5_priceOf 32 = .ok (.iload_n 2, 1) := by decide +kernel
theorem dX5_priceOf_33 : decode cX5_priceOf 33 = .ok (.aload_n 0, 1) := by decide +kernel
theorem dX5_priceOf_34 : decode cX5_priceOf 34 = .ok (.getfield 21, 3) := by decide +kernel
theorem dX5_priceOf_37 : decode cX5_priceOf 37 = .ok (.iload_n 1, 1) := by decide +kernel
theorem dX5_priceOf_38 : decode cX5_priceOf 38 = .ok (.iaload, 1) := by decide +kernel
theorem dX5_priceOf_39 : decode cX5_priceOf 39 = .ok (.aload_n 0, 1) := by decide +kernel
theorem dX5_priceOf_40 : decode cX5_priceOf 40 = .ok (.getfield 15, 3) := by decide +kernel
theorem dX5_priceOf_43 : decode cX5_priceOf 43 = .ok (.iload_n 1, 1) := by decide +kernel
theorem dX5_priceOf_44 : decode cX5_priceOf 44 = .ok (.iaload, 1) := by decide +kernel
theorem dX5_priceOf_45 : decode cX5_priceOf 45 = .ok (.invokevirtual 84, 3) := by decide +kernel
theorem dX5_priceOf_48 : decode cX5_priceOf 48 = .ok (.iconst 0, 1) := by decide +kernel
theorem dX5_priceOf_49 : decode cX5_priceOf 49 = .ok (.sipush 999, 3) := by decide +kernel
theorem dX5_priceOf_52 : decode cX5_priceOf 52 = .ok (.invokestatic 89, 3) := by decide +kernel
theorem dX5_priceOf_55 : decode cX5_priceOf 55 = .ok (.ireturn, 1) := by decide +kernel
theorem dX5_valueOf_0 : decode cX5_valueOf 0 = .ok (.aload_n 0, 1) := by decide +kernel
theorem dX5_valueOf_1 : decode cX5_valueOf 1 = .ok (.getfield 9, 3) := by decide +kernel
theorem dX5_valueOf_4 : decode cX5_valueOf 4 = .ok (.iload_n 1, 1) := by decide +kernel
theorem dX5_valueOf_5 : decode cX5_valueOf 5 = .ok (.iaload, 1) := by decide +kernel
theorem dX5_valueOf_6 : decode cX5_valueOf 6 = .ok (.tableswitch 109 1 5 #[34, 66, 49, 81, 107], 34) := by decide +kernel
theorem dX5_valueOf_40 : decode cX5_valueOf 40 = .ok (.aload_n 0, 1) := by decide +kernel
theorem dX5_valueOf_41 : decode cX5_valueOf 41 = .ok (.iload_n 1, 1) := by decide +kernel
theorem dX5_valueOf_42 : decode cX5_valueOf 42 = .ok (.aload_n 0, 1) := by decide +kernel
theorem dX5_valueOf_43 : decode cX5_valueOf 43 = .ok (.getfield 18, 3) := by decide +kernel
theorem dX5_valueOf_46 : decode cX5_valueOf 46 = .ok (.iload_n 1, 1) := by decide +kernel
theorem dX5_valueOf_47 : decode cX5_valueOf 47 = .ok (.iaload, 1) := by decide +kernel
theorem dX5_valueOf_48 : decode cX5_valueOf 48 = .ok (.invokevirtual 93, 3) := by decide +kernel
theorem dX5_valueOf_51 : decode cX5_valueOf 51 = .ok (.bipush 20, 2) := by decide +kernel
theorem dX5_valueOf_53 : decode cX5_valueOf 53 = .ok (.iadd, 1) := by decide +kernel
theorem dX5_valueOf_54 : decode cX5_valueOf 54 = .ok (.ireturn, 1) := by decide +kernel
theorem dX5_valueOf_55 : decode cX5_valueOf 55 = .ok (.aload_n 0, 1) := by decide +kernel
theorem dX5_valueOf_56 : decode cX5_valueOf 56 = .ok (.iload_n 1, 1) := by decide +kernel
theorem dX5_valueOf_57 : decode cX5_valueOf 57 = .ok (.aload_n 0, 1) := by decide +kernel
theorem dX5_valueOf_58 : decode cX5_valueOf 58 = .ok (.getfield 18, 3) := by decide +kernel
theorem dX5_valueOf_61 : decode cX5_valueOf 61 = .ok (.iload_n 1, 1) := by decide +kernel
theorem dX5_valueOf_62 : decode cX5_valueOf 62 = .ok (.iaload, 1) := by decide +kernel
theorem dX5_valueOf_63 : decode cX5_valueOf 63 = .ok (.invokevirtual 93, 3) := by decide +kernel
theorem dX5_valueOf_66 : decode cX5_valueOf 66 = .ok (.bipush 20, 2) := by decide +kernel
theorem dX5_valueOf_68 : decode cX5_valueOf 68 = .ok (.iadd, 1) := by decide +kernel
theorem dX5_valueOf_69 : decode cX5_valueOf 69 = .ok (.iconst 2, 1) := by decide +kernel
theorem dX5_valueOf_70 : decode cX5_valueOf 70 = .ok (.idiv, 1) := by decide +kernel
theorem dX5_valueOf_71 : decode cX5_valueOf 71 = .ok (.ireturn, 1) := by decide +kernel
theorem dX5_valueOf_72 : decode cX5_valueOf 72 = .ok (.aload_n 0, 1) := by decide +kernel
theorem dX5_valueOf_73 : decode cX5_valueOf 73 = .ok (.iload_n 1, 1) := by decide +kernel
theorem dX5_valueOf_74 : decode cX5_valueOf 74 = .ok (.bipush 9, 2) := by decide +kernel
theorem dX5_valueOf_76 : decode cX5_valueOf 76 = .ok (.aload_n 0, 1) := by decide +kernel
theorem dX5_valueOf_77 : decode cX5_valueOf 77 = .ok (.getfield 18, 3) := by decide +kernel
theorem dX5_valueOf_80 : decode cX5_valueOf 80 = .ok (.iload_n 1, 1) := by decide +kernel
theorem dX5_valueOf_81 : decode cX5_valueOf 81 = .ok (.iaload, 1) := by decide +kernel
theorem dX5_valueOf_82 : decode cX5_valueOf 82 = .ok (.isub, 1) := by decide +kernel
theorem dX5_valueOf_83 : decode cX5_valueOf 83 = .ok (.invokevirtual 93, 3) := by decide +kernel
theorem dX5_valueOf_86 : decode cX5_valueOf 86 = .ok (.ireturn, 1) := by decide +kernel
theorem dX5_valueOf_87 : decode cX5_valueOf 87 = .ok (.iconst 0, 1) := by decide +kernel
theorem dX5_valueOf_88 : decode cX5_valueOf 88 = .ok (.aload_n 0, 1) := by decide +kernel
theorem dX5_valueOf_89 : decode cX5_valueOf 89 = .ok (.iload_n 1, 1) := by decide +kernel
theorem dX5_valueOf_90 : decode cX5_valueOf 90 = .ok (.bipush 9, 2) := by decide +kernel
theorem dX5_valueOf_92 : decode cX5_valueOf 92 = .ok (.aload_n 0, 1) := by decide +kernel
theorem dX5_valueOf_93 : decode cX5_valueOf 93 = .ok (.getfield 18, 3) := by decide +kernel
theorem dX5_valueOf_96 : decode cX5_valueOf 96 = .ok (.iload_n 1, 1) := by decide +kernel
theorem dX5_valueOf_97 : decode cX5_valueOf 97 = .ok (.iaload, 1) := by decide +kernel
theorem dX5_valueOf_98 : decode cX5_valueOf 98 = .ok (.isub, 1) := by decide +kernel
theorem dX5_valueOf_99 : decode cX5_valueOf 99 = .ok (.invokevirtual 93, 3) := by decide +kernel
theorem dX5_valueOf_102 : decode cX5_valueOf 102 = .ok (.aload_n 0, 1) := by decide +kernel
theorem dX5_valueOf_103 : decode cX5_valueOf 103 = .ok (.getfield 21, 3) := by decide +kernel
theorem dX5_valueOf_106 : decode cX5_valueOf 106 = .ok (.iload_n 1, 1) := by decide +kernel
theorem dX5_valueOf_107 : decode cX5_valueOf 107 = .ok (.iaload, 1) := by decide +kernel
theorem dX5_valueOf_108 : decode cX5_valueOf 108 = .ok (.isub, 1) := by decide +kernel
theorem dX5_valueOf_109 : decode cX5_valueOf 109 = .ok (.invokestatic 78, 3) := by decide +kernel
theorem dX5_valueOf_112 : decode cX5_valueOf 112 = .ok (.ireturn, 1) := by decide +kernel
theorem dX5_valueOf_113 : decode cX5_valueOf 113 = .ok (.iconst 5, 1) := by decide +kernel
theorem dX5_valueOf_114 : decode cX5_valueOf 114 = .ok (.ireturn, 1) := by decide +kernel
theorem dX5_valueOf_115 : decode cX5_valueOf 115 = .ok (.aload_n 0, 1) := by decide +kernel
theorem dX5_valueOf_116 : decode cX5_valueOf 116 = .ok (.iload_n 1, 1) := by decide +kernel
theorem dX5_valueOf_117 : decode cX5_valueOf 117 = .ok (.aload_n 0, 1) := by decide +kernel
theorem dX5_valueOf_118 : decode cX5_valueOf 118 = .ok (.getfield 18, 3) := by decide +kernel
theorem dX5_valueOf_121 : decode cX5_valueOf 121 = .ok (.iload_n 1, 1) := by decide +kernel
theorem dX5_valueOf_122 : decode cX5_valueOf 122 = .ok (.iaload, 1) := by decide +kernel
theorem dX5_valueOf_123 : decode cX5_valueOf 123 = .ok (.invokevirtual 93, 3) := by decide +kernel
theorem dX5_valueOf_126 : decode cX5_valueOf 126 = .ok (.ireturn, 1) := by decide +kernel
theorem dX5_bidOf_0 : decode cX5_bidOf 0 = .ok (.iconst 0, 1) := by decide +kernel
theorem dX5_bidOf_1 : decode cX5_bidOf 1 = .ok (.iload_n 3, 1) := by decide +kernel
theorem dX5_bidOf_2 : decode cX5_bidOf 2 = .ok (.iconst 5, 1) := by decide +kernel
theorem dX5_bidOf_3 : decode cX5_bidOf 3 = .ok (.aload_n 0, 1) := by decide +kernel
theorem dX5_bidOf_4 : decode cX5_bidOf 4 = .ok (.getfield 18, 3) := by decide +kernel
theorem dX5_bidOf_7 : decode cX5_bidOf 7 = .ok (.iload_n 2, 1) := by decide +kernel
theorem dX5_bidOf_8 : decode cX5_bidOf 8 = .ok (.iaload, 1) := by decide +kernel
theorem dX5_bidOf_9 : decode cX5_bidOf 9 = .ok (.aload_n 0, 1) := by decide +kernel
theorem dX5_bidOf_10 : decode cX5_bidOf 10 = .ok (.getfield 33, 3) := by decide +kernel
theorem dX5_bidOf_13 : decode cX5_bidOf 13 = .ok (.iload_n 1, 1) := by decide +kernel
theorem dX5_bidOf_14 : decode cX5_bidOf 14 = .ok (.iaload, 1) := by decide +kernel
theorem dX5_bidOf_15 : decode cX5_bidOf 15 = .ok (.isub, 1) := by decide +kernel
theorem dX5_bidOf_16 : decode cX5_bidOf 16 = .ok (.invokestatic 96, 3) := by decide +kernel
theorem dX5_bidOf_19 : decode cX5_bidOf 19 = .ok (.imul, 1) := by decide +kernel
theorem dX5_bidOf_20 : decode cX5_bidOf 20 = .ok (.isub, 1) := by decide +kernel
theorem dX5_bidOf_21 : decode cX5_bidOf 21 = .ok (.invokestatic 78, 3) := by decide +kernel
theorem dX5_bidOf_24 : decode cX5_bidOf 24 = .ok (.istore 4, 2) := by decide +kernel
theorem dX5_bidOf_26 : decode cX5_bidOf 26 = .ok (.aload_n 0, 1) := by decide +kernel
theorem dX5_bidOf_27 : decode cX5_bidOf 27 = .ok (.getfield 24, 3) := by decide +kernel
theorem dX5_bidOf_30 : decode cX5_bidOf 30 = .ok (.iload_n 2, 1) := by decide +kernel
theorem dX5_bidOf_31 : decode cX5_bidOf 31 = .ok (.iaload, 1) := by decide +kernel
theorem dX5_bidOf_32 : decode cX5_bidOf 32 = .ok (.iload_n 1, 1) := by decide +kernel
theorem dX5_bidOf_33 : decode cX5_bidOf 33 = .ok (.if_icmp .ne 8, 3) := by decide +kernel
theorem dX5_bidOf_36 : decode cX5_bidOf 36 = .ok (.iload 4, 2) := by decide +kernel
theorem dX5_bidOf_38 : decode cX5_bidOf 38 = .ok (.goto 14, 3) := by decide +kernel
theorem dX5_bidOf_41 : decode cX5_bidOf 41 = .ok (.iload 4, 2) := by decide +kernel
theorem dX5_bidOf_43 : decode cX5_bidOf 43 = .ok (.aload_n 0, 1) := by decide +kernel
theorem dX5_bidOf_44 : decode cX5_bidOf 44 = .ok (.getfield 30, 3) := by decide +kernel
theorem dX5_bidOf_47 : decode cX5_bidOf 47 = .ok (.iload_n 1, 1) := by decide +kernel
theorem dX5_bidOf_48 : decode cX5_bidOf 48 = .ok (.iaload, 1) := by decide +kernel
theorem dX5_bidOf_49 : decode cX5_bidOf 49 = .ok (.invokestatic 100, 3) := by decide +kernel
theorem dX5_bidOf_52 : decode cX5_bidOf 52 = .ok (.ireturn, 1) := by decide +kernel
theorem dX5_bestBidder_0 : decode cX5_bestBidder 0 = .ok (.aload_n 0, 1) := by decide +kernel
theorem dX5_bestBidder_1 : decode cX5_bestBidder 1 = .ok (.getfield 24, 3) := by decide +kernel
theorem dX5_bestBidder_4 : decode cX5_bestBidder 4 = .ok (.iload_n 1, 1) := by decide +kernel
theorem dX5_bestBidder_5 : decode cX5_bestBidder 5 = .ok (.iaload, 1) := by decide +kernel
theorem dX5_bestBidder_6 : decode cX5_bestBidder 6 = .ok (.ifCond .ne 7, 3) := by decide +kernel
theorem dX5_bestBidder_9 : decode cX5_bestBidder 9 = .ok (.iconst 1, 1) := by decide +kernel
theorem dX5_bestBidder_10 : decode cX5_bestBidder 10 = .ok (.goto 4, 3) := by decide +kernel
theorem dX5_bestBidder_13 : decode cX5_bestBidder 13 = .ok (.iconst 0, 1) := by decide +kernel
theorem dX5_bestBidder_14 : decode cX5_bestBidder 14 = .ok (.istore_n 3, 1) := by decide +kernel
theorem dX5_bestBidder_15 : decode cX5_bestBidder 15 = .ok (.aload_n 0, 1) := by decide +kernel
theorem dX5_bestBidder_16 : decode cX5_bestBidder 16 = .ok (.iload_n 3, 1) := by decide +kernel
theorem dX5_bestBidder_17 : decode cX5_bestBidder 17 = .ok (.iload_n 1, 1) := by decide +kernel
theorem dX5_bestBidder_18 : decode cX5_bestBidder 18 = .ok (.iload_n 2, 1) := by decide +kernel
theorem dX5_bestBidder_19 : decode cX5_bestBidder 19 = .ok (.invokevirtual 103, 3) := by decide +kernel
theorem dX5_bestBidder_22 : decode cX5_bestBidder 22 = .ok (.istore 4, 2) := by decide +kernel
theorem dX5_bestBidder_24 : decode cX5_bestBidder 24 = .ok (.iload_n 3, 1) := by decide +kernel
theorem dX5_bestBidder_25 : decode cX5_bestBidder 25 = .ok (.iconst 1, 1) := by decide +kernel
theorem dX5_bestBidder_26 : decode cX5_bestBidder 26 = .ok (.iadd, 1) := by decide +kernel
theorem dX5_bestBidder_27 : decode cX5_bestBidder 27 = .ok (.istore 5, 2) := by decide +kernel
theorem dX5_bestBidder_29 : decode cX5_bestBidder 29 = .ok (.iload 5, 2) := by decide +kernel
theorem dX5_bestBidder_31 : decode cX5_bestBidder 31 = .ok (.bipush 6, 2) := by decide +kernel
theorem dX5_bestBidder_33 : decode cX5_bestBidder 33 = .ok (.if_icmp .ge 44, 3) := by decide +kernel
theorem dX5_bestBidder_36 : decode cX5_bestBidder 36 = .ok (.aload_n 0, 1) := by decide +kernel
theorem dX5_bestBidder_37 : decode cX5_bestBidder 37 = .ok (.iload 5, 2) := by decide +kernel
theorem dX5_bestBidder_39 : decode cX5_bestBidder 39 = .ok (.iload_n 1, 1) := by decide +kernel
theorem dX5_bestBidder_40 : decode cX5_bestBidder 40 = .ok (.iload_n 2, 1) := by decide +kernel
theorem dX5_bestBidder_41 : decode cX5_bestBidder 41 = .ok (.invokevirtual 103, 3) := by decide +kernel
theorem dX5_bestBidder_44 : decode cX5_bestBidder 44 = .ok (.istore 6, 2) := by decide +kernel
theorem dX5_bestBidder_46 : decode cX5_bestBidder 46 = .ok (.iload 5, 2) := by decide +kernel
theorem dX5_bestBidder_48 : decode cX5_bestBidder 48 = .ok (.aload_n 0, 1) := by decide +kernel
theorem dX5_bestBidder_49 : decode cX5_bestBidder 49 = .ok (.getfield 24, 3) := by decide +kernel
theorem dX5_bestBidder_52 : decode cX5_bestBidder 52 = .ok (.iload_n 1, 1) := by decide +kernel
theorem dX5_bestBidder_53 : decode cX5_bestBidder 53 = .ok (.iaload, 1) := by decide +kernel
theorem dX5_bestBidder_54 : decode cX5_bestBidder 54 = .ok (.if_icmp .eq 17, 3) := by decide +kernel
theorem dX5_bestBidder_57 : decode cX5_bestBidder 57 = .ok (.iload 6, 2) := by decide +kernel
theorem dX5_bestBidder_59 : decode cX5_bestBidder 59 = .ok (.iload 4, 2) := by decide +kernel
theorem dX5_bestBidder_61 : decode cX5_bestBidder 61 = .ok (.if_icmp .le 10, 3) := by decide +kernel
theorem dX5_bestBidder_64 : decode cX5_bestBidder 64 = .ok (.iload 5, 2) := by decide +kernel
theorem dX5_bestBidder_66 : decode cX5_bestBidder 66 = .ok (.istore_n 3, 1) := by decide +kernel
theorem dX5_bestBidder_67 : decode cX5_bestBidder 67 = .ok (.iload 6, 2) := by decide +kernel
theorem dX5_bestBidder_69 : decode cX5_bestBidder 69 = .ok (.istore 4, 2) := by decide +kernel
theorem dX5_bestBidder_71 : decode cX5_bestBidder 71 = .ok (.iinc 5 1, 3) := by decide +kernel
theorem dX5_bestBidder_74 : decode cX5_bestBidder 74 = .ok (.goto (-45), 3) := by decide +kernel
theorem dX5_bestBidder_77 : decode cX5_bestBidder 77 = .ok (.iload_n 3, 1) := by decide +kernel
theorem dX5_bestBidder_78 : decode cX5_bestBidder 78 = .ok (.ireturn, 1) := by decide +kernel
theorem dX5_sell_0 : decode cX5_sell 0 = .ok (.aload_n 0, 1) := by decide +kernel
theorem dX5_sell_1 : decode cX5_sell 1 = .ok (.getfield 24, 3) := by decide +kernel
theorem dX5_sell_4 : decode cX5_sell 4 = .ok (.iload_n 1, 1) := by decide +kernel
theorem dX5_sell_5 : decode cX5_sell 5 = .ok (.iaload, 1) := by decide +kernel
theorem dX5_sell_6 : decode cX5_sell 6 = .ok (.istore 4, 2) := by decide +kernel
theorem dX5_sell_8 : decode cX5_sell 8 = .ok (.aload_n 0, 1) := by decide +kernel
theorem dX5_sell_9 : decode cX5_sell 9 = .ok (.getfield 30, 3) := by decide +kernel
theorem dX5_sell_12 : decode cX5_sell 12 = .ok (.iload 4, 2) := by decide +kernel
theorem dX5_sell_14 : decode cX5_sell 14 = .ok (.iaload, 1) := by decide +kernel
theorem dX5_sell_15 : decode cX5_sell 15 = .ok (.iload_n 3, 1) := by decide +kernel
theorem dX5_sell_16 : decode cX5_sell 16 = .ok (.iadd, 1) := by decide +kernel
theorem dX5_sell_17 : decode cX5_sell 17 = .ok (.istore 5, 2) := by decide +kernel
theorem dX5_sell_19 : decode cX5_sell 19 = .ok (.aload_n 0, 1) := by decide +kernel
theorem dX5_sell_20 : decode cX5_sell 20 = .ok (.getfield 30, 3) := by decide +kernel
theorem dX5_sell_23 : decode cX5_sell 23 = .ok (.iload_n 2, 1) := by decide +kernel
theorem dX5_sell_24 : decode cX5_sell 24 = .ok (.dup2, 1) := by decide +kernel
theorem dX5_sell_25 : decode cX5_sell 25 = .ok (.iaload, 1) := by decide +kernel
theorem dX5_sell_26 : decode cX5_sell 26 = .ok (.iload_n 3, 1) := by decide +kernel
theorem dX5_sell_27 : decode cX5_sell 27 = .ok (.isub, 1) := by decide +kernel
theorem dX5_sell_28 : decode cX5_sell 28 = .ok (.iastore, 1) := by decide +kernel
theorem dX5_sell_29 : decode cX5_sell 29 = .ok (.aload_n 0, 1) := by decide +kernel
theorem dX5_sell_30 : decode cX5_sell 30 = .ok (.getfield 30, 3) := by decide +kernel
theorem dX5_sell_33 : decode cX5_sell 33 = .ok (.iload 4, 2) := by decide +kernel
theorem dX5_sell_35 : decode cX5_sell 35 = .ok (.iload 5, 2) := by decide +kernel
theorem dX5_sell_37 : decode cX5_sell 37 = .ok (.sipush 9999, 3) := by decide +kernel
theorem dX5_sell_40 : decode cX5_sell 40 = .ok (.invokestatic 100, 3) := by decide +kernel
theorem dX5_sell_43 : decode cX5_sell 43 = .ok (.iastore, 1) := by decide +kernel
theorem dX5_sell_44 : decode cX5_sell 44 = .ok (.aload_n 0, 1) := by decide +kernel
theorem dX5_sell_45 : decode cX5_sell 45 = .ok (.dup, 1) := by decide +kernel
theorem dX5_sell_46 : decode cX5_sell 46 = .ok (.getfield 62, 3) := by decide +kernel
theorem dX5_sell_49 : decode cX5_sell 49 = .ok (.iload 5, 2) := by decide +kernel
theorem dX5_sell_51 : decode cX5_sell 51 = .ok (.aload_n 0, 1) := by decide +kernel
theorem dX5_sell_52 : decode cX5_sell 52 = .ok (.getfield 30, 3) := by decide +kernel
theorem dX5_sell_55 : decode cX5_sell 55 = .ok (.iload 4, 2) := by decide +kernel
theorem dX5_sell_57 : decode cX5_sell 57 = .ok (.iaload, 1) := by decide +kernel
theorem dX5_sell_58 : decode cX5_sell 58 = .ok (.isub, 1) := by decide +kernel
theorem dX5_sell_59 : decode cX5_sell 59 = .ok (.iadd, 1) := by decide +kernel
theorem dX5_sell_60 : decode cX5_sell 60 = .ok (.putfield 62, 3) := by decide +kernel
theorem dX5_sell_63 : decode cX5_sell 63 = .ok (.aload_n 0, 1) := by decide +kernel
theorem dX5_sell_64 : decode cX5_sell 64 = .ok (.getfield 24, 3) := by decide +kernel
theorem dX5_sell_67 : decode cX5_sell 67 = .ok (.iload_n 1, 1) := by decide +kernel
theorem dX5_sell_68 : decode cX5_sell 68 = .ok (.iload_n 2, 1) := by decide +kernel
theorem dX5_sell_69 : decode cX5_sell 69 = .ok (.iastore, 1) := by decide +kernel
theorem dX5_sell_70 : decode cX5_sell 70 = .ok (.aload_n 0, 1) := by decide +kernel
theorem dX5_sell_71 : decode cX5_sell 71 = .ok (.getfield 27, 3) := by decide +kernel
theorem dX5_sell_74 : decode cX5_sell 74 = .ok (.iload_n 1, 1) := by decide +kernel
theorem dX5_sell_75 : decode cX5_sell 75 = .ok (.dup2, 1) := by decide +kernel
theorem dX5_sell_76 : decode cX5_sell 76 = .ok (.iaload, 1) := by decide +kernel
theorem dX5_sell_77 : decode cX5_sell 77 = .ok (.iconst 1, 1) := by decide +kernel
theorem dX5_sell_78 : decode cX5_sell 78 = .ok (.iload_n 2, 1) := by decide +kernel
theorem dX5_sell_79 : decode cX5_sell 79 = .ok (.ishl, 1) := by decide +kernel
theorem dX5_sell_80 : decode cX5_sell 80 = .ok (.ior, 1) := by decide +kernel
theorem dX5_sell_81 : decode cX5_sell 81 = .ok (.iastore, 1) := by decide +kernel
theorem dX5_sell_82 : decode cX5_sell 82 = .ok (.aload_n 0, 1) := by decide +kernel
theorem dX5_sell_83 : decode cX5_sell 83 = .ok (.dup, 1) := by decide +kernel
theorem dX5_sell_84 : decode cX5_sell 84 = .ok (.getfield 59, 3) := by decide +kernel
theorem dX5_sell_87 : decode cX5_sell 87 = .ok (.iconst 1, 1) := by decide +kernel
theorem dX5_sell_88 : decode cX5_sell 88 = .ok (.iadd, 1) := by decide +kernel
theorem dX5_sell_89 : decode cX5_sell 89 = .ok (.putfield 59, 3) := by decide +kernel
theorem dX5_sell_92 : decode cX5_sell 92 = .ok (.return_, 1) := by decide +kernel
theorem dX5_marketsLeft_0 : decode cX5_marketsLeft 0 = .ok (.iload_n 1, 1) := by decide +kernel
theorem dX5_marketsLeft_1 : decode cX5_marketsLeft 1 = .ok (.sipush 9999, 3) := by decide +kernel
theorem dX5_marketsLeft_4 : decode cX5_marketsLeft 4 = .ok (.aload_n 0, 1) := by decide +kernel
theorem dX5_marketsLeft_5 : decode cX5_marketsLeft 5 = .ok (.getfield 65, 3) := by decide +kernel
theorem dX5_marketsLeft_8 : decode cX5_marketsLeft 8 = .ok (.isub, 1) := by decide +kernel
theorem dX5_marketsLeft_9 : decode cX5_marketsLeft 9 = .ok (.invokestatic 100, 3) := by decide +kernel
theorem dX5_marketsLeft_12 : decode cX5_marketsLeft 12 = .ok (.ireturn, 1) := by decide +kernel
theorem dX5_goOn_0 : decode cX5_goOn 0 = .ok (.iconst 0, 1) := by decide +kernel
theorem dX5_goOn_1 : decode cX5_goOn 1 = .ok (.istore_n 2, 1) := by decide +kernel
theorem dX5_goOn_2 : decode cX5_goOn 2 = .ok (.iload_n 2, 1) := by decide +kernel
theorem dX5_goOn_3 : decode cX5_goOn 3 = .ok (.iload_n 1, 1) := by decide +kernel
theorem dX5_goOn_4 : decode cX5_goOn 4 = .ok (.if_icmp .ge 27, 3) := by decide +kernel
theorem dX5_goOn_7 : decode cX5_goOn 7 = .ok (.aload_n 0, 1) := by decide +kernel
theorem dX5_goOn_8 : decode cX5_goOn 8 = .ok (.invokevirtual 106, 3) := by decide +kernel
theorem dX5_goOn_11 : decode cX5_goOn 11 = .ok (.aload_n 0, 1) := by decide +kernel
theorem dX5_goOn_12 : decode cX5_goOn 12 = .ok (.invokevirtual 109, 3) := by decide +kernel
theorem dX5_goOn_15 : decode cX5_goOn 15 = .ok (.aload_n 0, 1) := by decide +kernel
theorem dX5_goOn_16 : decode cX5_goOn 16 = .ok (.dup, 1) := by decide +kernel
theorem dX5_goOn_17 : decode cX5_goOn 17 = .ok (.getfield 65, 3) := by decide +kernel
theorem dX5_goOn_20 : decode cX5_goOn 20 = .ok (.iconst 1, 1) := by decide +kernel
theorem dX5_goOn_21 : decode cX5_goOn 21 = .ok (.iadd, 1) := by decide +kernel
theorem dX5_goOn_22 : decode cX5_goOn 22 = .ok (.putfield 65, 3) := by decide +kernel
theorem dX5_goOn_25 : decode cX5_goOn 25 = .ok (.iinc 2 1, 3) := by decide +kernel
theorem dX5_goOn_28 : decode cX5_goOn 28 = .ok (.goto (-26), 3) := by decide +kernel
theorem dX5_goOn_31 : decode cX5_goOn 31 = .ok (.return_, 1) := by decide +kernel
theorem dX5_wearDays_0 : decode cX5_wearDays 0 = .ok (.aload_n 0, 1) := by decide +kernel
theorem dX5_wearDays_1 : decode cX5_wearDays 1 = .ok (.getfield 36, 3) := by decide +kernel
theorem dX5_wearDays_4 : decode cX5_wearDays 4 = .ok (.iconst 1, 1) := by decide +kernel
theorem dX5_wearDays_5 : decode cX5_wearDays 5 = .ok (.iaload, 1) := by decide +kernel
theorem dX5_wearDays_6 : decode cX5_wearDays 6 = .ok (.istore_n 1, 1) := by decide +kernel
theorem dX5_wearDays_7 : decode cX5_wearDays 7 = .ok (.iconst 0, 1) := by decide +kernel
theorem dX5_wearDays_8 : decode cX5_wearDays 8 = .ok (.istore_n 2, 1) := by decide +kernel
theorem dX5_wearDays_9 : decode cX5_wearDays 9 = .ok (.iload_n 2, 1) := by decide +kernel
theorem dX5_wearDays_10 : decode cX5_wearDays 10 = .ok (.aload_n 0, 1) := by decide +kernel
theorem dX5_wearDays_11 : decode cX5_wearDays 11 = .ok (.getfield 53, 3) := by decide +kernel
theorem dX5_wearDays_14 : decode cX5_wearDays 14 = .ok (.if_icmp .ge 76, 3) := by decide +kernel
theorem dX5_wearDays_17 : decode cX5_wearDays 17 = .ok (.aload_n 0, 1) := by decide +kernel
theorem dX5_wearDays_18 : decode cX5_wearDays 18 = .ok (.invokevirtual 70, 3) := by decide +kernel
theorem dX5_wearDays_21 : decode cX5_wearDays 21 = .ok (.bipush 10, 2) := by decide +kernel
theorem dX5_wearDays_23 : decode cX5_wearDays 23 = .ok (.irem, 1) := by decide +kernel
theorem dX5_wearDays_24 : decode cX5_wearDays 24 = .ok (.istore_n 3, 1) := by decide +kernel
theorem dX5_wearDays_25 : decode cX5_wearDays 25 = .ok (.iload_n 1, 1) := by decide +kernel
theorem dX5_wearDays_26 : decode cX5_wearDays 26 = .ok (.ifCond .ge 9, 3) := by decide +kernel
theorem dX5_wearDays_29 : decode cX5_wearDays 29 = .ok (.iload_n 3, 1) := by decide +kernel
theorem dX5_wearDays_30 : decode cX5_wearDays 30 = .ok (.iconst 3, 1) := by decide +kernel
theorem dX5_wearDays_31 : decode cX5_wearDays 31 = .ok (.idiv, 1) := by decide +kernel
theorem dX5_wearDays_32 : decode cX5_wearDays 32 = .ok (.goto 30, 3) := by decide +kernel
theorem dX5_wearDays_35 : decode cX5_wearDays 35 = .ok (.aload_n 0, 1) := by decide +kernel
theorem dX5_wearDays_36 : decode cX5_wearDays 36 = .ok (.getfield 39, 3) := by decide +kernel
theorem dX5_wearDays_39 : decode cX5_wearDays 39 = .ok (.iload_n 1, 1) := by decide +kernel
theorem dX5_wearDays_40 : decode cX5_wearDays 40 = .ok (.iload_n 3, 1) := by decide +kernel
theorem dX5_wearDays_41 : decode cX5_wearDays 41 = .ok (.aload_n 0, 1) := by decide +kernel
theorem dX5_wearDays_42 : decode cX5_wearDays 42 = .ok (.getfield 18, 3) := by decide +kernel
theorem dX5_wearDays_45 : decode cX5_wearDays 45 = .ok (.iload_n 2, 1) := by decide +kernel
theorem dX5_wearDays_46 : decode cX5_wearDays 46 = .ok (.iaload, 1) := by decide +kernel
theorem dX5_wearDays_47 : decode cX5_wearDays 47 = .ok (.aload_n 0, 1) := by decide +kernel
theorem dX5_wearDays_48 : decode cX5_wearDays 48 = .ok (.getfield 21, 3) := by decide +kernel
theorem dX5_wearDays_51 : decode cX5_wearDays 51 = .ok (.iload_n 2, 1) := by decide +kernel
theorem dX5_wearDays_52 : decode cX5_wearDays 52 = .ok (.iaload, 1) := by decide +kernel
theorem dX5_wearDays_53 : decode cX5_wearDays 53 = .ok (.invokevirtual 84, 3) := by decide +kernel
theorem dX5_wearDays_56 : decode cX5_wearDays 56 = .ok (.iconst 0, 1) := by decide +kernel
theorem dX5_wearDays_57 : decode cX5_wearDays 57 = .ok (.bipush 20, 2) := by decide +kernel
theorem dX5_wearDays_59 : decode cX5_wearDays 59 = .ok (.invokestatic 89, 3) := by decide +kernel
theorem dX5_wearDays_62 : decode cX5_wearDays 62 = .ok (.istore 4, 2) := by decide +kernel
theorem dX5_wearDays_64 : decode cX5_wearDays 64 = .ok (.aload_n 0, 1) := by decide +kernel
theorem dX5_wearDays_65 : decode cX5_wearDays 65 = .ok (.getfield 21, 3) := by decide +kernel
theorem dX5_wearDays_68 : decode cX5_wearDays 68 = .ok (.iload_n 2, 1) := by decide +kernel
theorem dX5_wearDays_69 : decode cX5_wearDays 69 = .ok (.aload_n 0, 1) := by decide +kernel
theorem dX5_wearDays_70 : decode cX5_wearDays 70 = .ok (.getfield 21, 3) := by decide +kernel
theorem dX5_wearDays_73 : decode cX5_wearDays 73 = .ok (.iload_n 2, 1) := by decide +kernel
theorem dX5_wearDays_74 : decode cX5_wearDays 74 = .ok (.iaload, 1) := by decide +kernel
theorem dX5_wearDays_75 : decode cX5_wearDays 75 = .ok (.iload 4, 2) := by decide +kernel
theorem dX5_wearDays_77 : decode cX5_wearDays 77 = .ok (.iadd, 1) := by decide +kernel
theorem dX5_wearDays_78 : decode cX5_wearDays 78 = .ok (.bipush 99, 2) := by decide +kernel
theorem dX5_wearDays_80 : decode cX5_wearDays 80 = .ok (.invokestatic 100, 3) := by decide +kernel
theorem dX5_wearDays_83 : decode cX5_wearDays 83 = .ok (.iastore, 1) := by decide +kernel
theorem dX5_wearDays_84 : decode cX5_wearDays 84 = .ok (.iinc 2 1, 3) := by decide +kernel
theorem dX5_wearDays_87 : decode cX5_wearDays 87 = .ok (.goto (-78), 3) := by decide +kernel
theorem dX5_wearDays_90 : decode cX5_wearDays 90 = .ok (.return_, 1) := by decide +kernel
theorem dX5_sellDays_0 : decode cX5_sellDays 0 = .ok (.iconst 0, 1) := by decide +kernel
theorem dX5_sellDays_1 : decode cX5_sellDays 1 = .ok (.istore_n 1, 1) := by decide +kernel
theorem dX5_sellDays_2 : decode cX5_sellDays 2 = .ok (.iload_n 1, 1) := by decide +kernel
theorem dX5_sellDays_3 : decode cX5_sellDays 3 = .ok (.aload_n 0, 1) := by decide +kernel
theorem dX5_sellDays_4 : decode cX5_sellDays 4 = .ok (.getfield 53, 3) := by decide +kernel
theorem dX5_sellDays_7 : decode cX5_sellDays 7 = .ok (.if_icmp .ge 56, 3) := by decide +kernel
theorem dX5_sellDays_10 : decode cX5_sellDays 10 = .ok (.aload_n 0, 1) := by decide +kernel
theorem dX5_sellDays_11 : decode cX5_sellDays 11 = .ok (.iload_n 1, 1) := by decide +kernel
theorem dX5_sellDays_12 : decode cX5_sellDays 12 = .ok (.invokevirtual 112, 3) := by decide +kernel
theorem dX5_sellDays_15 : decode cX5_sellDays 15 = .ok (.istore_n 2, 1) := by decide +kernel
theorem dX5_sellDays_16 : decode cX5_sellDays 16 = .ok (.aload_n 0, 1) := by decide +kernel
theorem dX5_sellDays_17 : decode cX5_sellDays 17 = .ok (.iload_n 1, 1) := by decide +kernel
theorem dX5_sellDays_18 : decode cX5_sellDays 18 = .ok (.iload_n 2, 1) := by decide +kernel
theorem dX5_sellDays_19 : decode cX5_sellDays 19 = .ok (.invokevirtual 115, 3) := by decide +kernel
theorem dX5_sellDays_22 : decode cX5_sellDays 22 = .ok (.istore_n 3, 1) := by decide +kernel
theorem dX5_sellDays_23 : decode cX5_sellDays 23 = .ok (.aload_n 0, 1) := by decide +kernel
theorem dX5_sellDays_24 : decode cX5_sellDays 24 = .ok (.iload_n 3, 1) := by decide +kernel
theorem dX5_sellDays_25 : decode cX5_sellDays 25 = .ok (.iload_n 1, 1) := by decide +kernel
theorem dX5_sellDays_26 : decode cX5_sellDays 26 = .ok (.iload_n 2, 1) := by decide +kernel
theorem dX5_sellDays_27 : decode cX5_sellDays 27 = .ok (.invokevirtual 103, 3) := by decide +kernel
theorem dX5_sellDays_30 : decode cX5_sellDays 30 = .ok (.istore 4, 2) := by decide +kernel
theorem dX5_sellDays_32 : decode cX5_sellDays 32 = .ok (.iload 4, 2) := by decide +kernel
theorem dX5_sellDays_34 : decode cX5_sellDays 34 = .ok (.aload_n 0, 1) := by decide +kernel
theorem dX5_sellDays_35 : decode cX5_sellDays 35 = .ok (.aload_n 0, 1) := by decide +kernel
theorem dX5_sellDays_36 : decode cX5_sellDays 36 = .ok (.getfield 24, 3) := by decide +kernel
theorem dX5_sellDays_39 : decode cX5_sellDays 39 = .ok (.iload_n 1, 1) := by decide +kernel
theorem dX5_sellDays_40 : decode cX5_sellDays 40 = .ok (.iaload, 1) := by decide +kernel
theorem dX5_sellDays_41 : decode cX5_sellDays 41 = .ok (.iload_n 1, 1) := by decide +kernel
theorem dX5_sellDays_42 : decode cX5_sellDays 42 = .ok (.iload_n 2, 1) := by decide +kernel
theorem dX5_sellDays_43 : decode cX5_sellDays 43 = .ok (.invokevirtual 103, 3) := by decide +kernel
theorem dX5_sellDays_46 : decode cX5_sellDays 46 = .ok (.if_icmp .le 11, 3) := by decide +kernel
theorem dX5_sellDays_49 : decode cX5_sellDays 49 = .ok (.aload_n 0, 1) := by decide +kernel
theorem dX5_sellDays_50 : decode cX5_sellDays 50 = .ok (.iload_n 1, 1) := by decide +kernel
theorem dX5_sellDays_51 : decode cX5_sellDays 51 = .ok (.iload_n 3, 1) := by decide +kernel
theorem dX5_sellDays_52 : decode cX5_sellDays 52 = .ok (.iload 4, 2) := by decide +kernel
theorem dX5_sellDays_54 : decode cX5_sellDays 54 = .ok (.invokevirtual 118, 3) := by decide +kernel
theorem dX5_sellDays_57 : decode cX5_sellDays 57 = .ok (.iinc 1 1, 3) := by decide +kernel
theorem dX5_sellDays_60 : decode cX5_sellDays 60 = .ok (.goto (-58), 3) := by decide +kernel
theorem dX5_sellDays_63 : decode cX5_sellDays 63 = .ok (.return_, 1) := by decide +kernel
theorem dX5_allCoins_0 : decode cX5_allCoins 0 = .ok (.iconst 0, 1) := by decide +kernel
theorem dX5_allCoins_1 : decode cX5_allCoins 1 = .ok (.istore_n 1, 1) := by decide +kernel
theorem dX5_allCoins_2 : decode cX5_allCoins 2 = .ok (.iconst 0, 1) := by decide +kernel
theorem dX5_allCoins_3 : decode cX5_allCoins 3 = .ok (.istore_n 2, 1) := by decide +kernel
theorem dX5_allCoins_4 : decode cX5_allCoins 4 = .ok (.iload_n 2, 1) := by decide +kernel
theorem dX5_allCoins_5 : decode cX5_allCoins 5 = .ok (.bipush 6, 2) := by decide +kernel
theorem dX5_allCoins_7 : decode cX5_allCoins 7 = .ok (.if_icmp .ge 18, 3) := by decide +kernel
theorem dX5_allCoins_10 : decode cX5_allCoins 10 = .ok (.iload_n 1, 1) := by decide +kernel
theorem dX5_allCoins_11 : decode cX5_allCoins 11 = .ok (.aload_n 0, 1) := by decide +kernel
theorem dX5_allCoins_12 : decode cX5_allCoins 12 = .ok (.getfield 30, 3) := by decide +kernel
theorem dX5_allCoins_15 : decode cX5_allCoins 15 = .ok (.iload_n 2, 1) := by decide +kernel
theorem dX5_allCoins_16 : decode cX5_allCoins 16 = .ok (.iaload, 1) := by decide +kernel
theorem dX5_allCoins_17 : decode cX5_allCoins 17 = .ok (.iadd, 1) := by decide +kernel
theorem dX5_allCoins_18 : decode cX5_allCoins 18 = .ok (.istore_n 1, 1) := by decide +kernel
theorem dX5_allCoins_19 : decode cX5_allCoins 19 = .ok (.iinc 2 1, 3) := by decide +kernel
theorem dX5_allCoins_22 : decode cX5_allCoins 22 = .ok (.goto (-18), 3) := by decide +kernel
theorem dX5_allCoins_25 : decode cX5_allCoins 25 = .ok (.iload_n 1, 1) := by decide +kernel
theorem dX5_allCoins_26 : decode cX5_allCoins 26 = .ok (.ireturn, 1) := by decide +kernel
theorem dX5_allWear_0 : decode cX5_allWear 0 = .ok (.iconst 0, 1) := by decide +kernel
theorem dX5_allWear_1 : decode cX5_allWear 1 = .ok (.istore_n 1, 1) := by decide +kernel
theorem dX5_allWear_2 : decode cX5_allWear 2 = .ok (.iconst 0, 1) := by decide +kernel
theorem dX5_allWear_3 : decode cX5_allWear 3 = .ok (.istore_n 2, 1) := by decide +kernel
theorem dX5_allWear_4 : decode cX5_allWear 4 = .ok (.iload_n 2, 1) := by decide +kernel
theorem dX5_allWear_5 : decode cX5_allWear 5 = .ok (.aload_n 0, 1) := by decide +kernel
theorem dX5_allWear_6 : decode cX5_allWear 6 = .ok (.getfield 53, 3) := by decide +kernel
theorem dX5_allWear_9 : decode cX5_allWear 9 = .ok (.if_icmp .ge 18, 3) := by decide +kernel
theorem dX5_allWear_12 : decode cX5_allWear 12 = .ok (.iload_n 1, 1) := by decide +kernel
theorem dX5_allWear_13 : decode cX5_allWear 13 = .ok (.aload_n 0, 1) := by decide +kernel
theorem dX5_allWear_14 : decode cX5_allWear 14 = .ok (.getfield 21, 3) := by decide +kernel
theorem dX5_allWear_17 : decode cX5_allWear 17 = .ok (.iload_n 2, 1) := by decide +kernel
theorem dX5_allWear_18 : decode cX5_allWear 18 = .ok (.iaload, 1) := by decide +kernel
theorem dX5_allWear_19 : decode cX5_allWear 19 = .ok (.iadd, 1) := by decide +kernel
theorem dX5_allWear_20 : decode cX5_allWear 20 = .ok (.istore_n 1, 1) := by decide +kernel
theorem dX5_allWear_21 : decode cX5_allWear 21 = .ok (.iinc 2 1, 3) := by decide +kernel
theorem dX5_allWear_24 : decode cX5_allWear 24 = .ok (.goto (-20), 3) := by decide +kernel
theorem dX5_allWear_27 : decode cX5_allWear 27 = .ok (.iload_n 1, 1) := by decide +kernel
theorem dX5_allWear_28 : decode cX5_allWear 28 = .ok (.ireturn, 1) := by decide +kernel
theorem dX5_allValue_0 : decode cX5_allValue 0 = .ok (.iconst 0, 1) := by decide +kernel
theorem dX5_allValue_1 : decode cX5_allValue 1 = .ok (.istore_n 1, 1) := by decide +kernel
theorem dX5_allValue_2 : decode cX5_allValue 2 = .ok (.iconst 0, 1) := by decide +kernel
theorem dX5_allValue_3 : decode cX5_allValue 3 = .ok (.istore_n 2, 1) := by decide +kernel
theorem dX5_allValue_4 : decode cX5_allValue 4 = .ok (.iload_n 2, 1) := by decide +kernel
theorem dX5_allValue_5 : decode cX5_allValue 5 = .ok (.aload_n 0, 1) := by decide +kernel
theorem dX5_allValue_6 : decode cX5_allValue 6 = .ok (.getfield 53, 3) := by decide +kernel
theorem dX5_allValue_9 : decode cX5_allValue 9 = .ok (.if_icmp .ge 17, 3) := by decide +kernel
theorem dX5_allValue_12 : decode cX5_allValue 12 = .ok (.iload_n 1, 1) := by decide +kernel
theorem dX5_allValue_13 : decode cX5_allValue 13 = .ok (.aload_n 0, 1) := by decide +kernel
theorem dX5_allValue_14 : decode cX5_allValue 14 = .ok (.iload_n 2, 1) := by decide +kernel
theorem dX5_allValue_15 : decode cX5_allValue 15 = .ok (.invokevirtual 112, 3) := by decide +kernel
theorem dX5_allValue_18 : decode cX5_allValue 18 = .ok (.iadd, 1) := by decide +kernel
theorem dX5_allValue_19 : decode cX5_allValue 19 = .ok (.istore_n 1, 1) := by decide +kernel
theorem dX5_allValue_20 : decode cX5_allValue 20 = .ok (.iinc 2 1, 3) := by decide +kernel
theorem dX5_allValue_23 : decode cX5_allValue 23 = .ok (.goto (-19), 3) := by decide +kernel
theorem dX5_allValue_26 : decode cX5_allValue 26 = .ok (.iload_n 1, 1) := by decide +kernel
theorem dX5_allValue_27 : decode cX5_allValue 27 = .ok (.ireturn, 1) := by decide +kernel
theorem dX5_howMany_0 : decode cX5_howMany 0 = .ok (.iconst 0, 1) := by decide +kernel
theorem dX5_howMany_1 : decode cX5_howMany 1 = .ok (.istore_n 3, 1) := by decide +kernel
theorem dX5_howMany_2 : decode cX5_howMany 2 = .ok (.iconst 0, 1) := by decide +kernel
theorem dX5_howMany_3 : decode cX5_howMany 3 = .ok (.istore 4, 2) := by decide +kernel
theorem dX5_howMany_5 : decode cX5_howMany 5 = .ok (.iload 4, 2) := by decide +kernel
theorem dX5_howMany_7 : decode cX5_howMany 7 = .ok (.aload_n 0, 1) := by decide +kernel
theorem dX5_howMany_8 : decode cX5_howMany 8 = .ok (.getfield 53, 3) := by decide +kernel
theorem dX5_howMany_11 : decode cX5_howMany 11 = .ok (.if_icmp .ge 34, 3) := by decide +kernel
theorem dX5_howMany_14 : decode cX5_howMany 14 = .ok (.aload_n 0, 1) := by decide +kernel
theorem dX5_howMany_15 : decode cX5_howMany 15 = .ok (.getfield 15, 3) := by decide +kernel
theorem dX5_howMany_18 : decode cX5_howMany 18 = .ok (.iload 4, 2) := by decide +kernel
theorem dX5_howMany_20 : decode cX5_howMany 20 = .ok (.iaload, 1) := by decide +kernel
theorem dX5_howMany_21 : decode cX5_howMany 21 = .ok (.iload_n 1, 1) := by decide +kernel
theorem dX5_howMany_22 : decode cX5_howMany 22 = .ok (.if_icmp .ne 17, 3) := by decide +kernel
theorem dX5_howMany_25 : decode cX5_howMany 25 = .ok (.aload_n 0, 1) := by decide +kernel
theorem dX5_howMany_26 : decode cX5_howMany 26 = .ok (.getfield 18, 3) := by decide +kernel
theorem dX5_howMany_29 : decode cX5_howMany 29 = .ok (.iload 4, 2) := by decide +kernel
theorem dX5_howMany_31 : decode cX5_howMany 31 = .ok (.iaload, 1) := by decide +kernel
theorem dX5_howMany_32 : decode cX5_howMany 32 = .ok (.iload_n 2, 1) := by decide +kernel
theorem dX5_howMany_33 : decode cX5_howMany 33 = .ok (.if_icmp .ne 6, 3) := by decide +kernel
theorem dX5_howMany_36 : decode cX5_howMany 36 = .ok (.iinc 3 1, 3) := by decide +kernel
theorem dX5_howMany_39 : decode cX5_howMany 39 = .ok (.iinc 4 1, 3) := by decide +kernel
theorem dX5_howMany_42 : decode cX5_howMany 42 = .ok (.goto (-37), 3) := by decide +kernel
theorem dX5_howMany_45 : decode cX5_howMany 45 = .ok (.iload_n 3, 1) := by decide +kernel
theorem dX5_howMany_46 : decode cX5_howMany 46 = .ok (.ireturn, 1) := by decide +kernel
theorem dX5_trueTone_0 : decode cX5_trueTone 0 = .ok (.iconst 0, 1) := by decide +kernel
theorem dX5_trueTone_1 : decode cX5_trueTone 1 = .ok (.istore_n 2, 1) := by decide +kernel
theorem dX5_trueTone_2 : decode cX5_trueTone 2 = .ok (.iconst 1, 1) := by decide +kernel
theorem dX5_trueTone_3 : decode cX5_trueTone 3 = .ok (.istore_n 3, 1) := by decide +kernel
theorem dX5_trueTone_4 : decode cX5_trueTone 4 = .ok (.iload_n 3, 1) := by decide +kernel
theorem dX5_trueTone_5 : decode cX5_trueTone 5 = .ok (.bipush 9, 2) := by decide +kernel
theorem dX5_trueTone_7 : decode cX5_trueTone 7 = .ok (.if_icmp .gt 26, 3) := by decide +kernel
theorem dX5_trueTone_10 : decode cX5_trueTone 10 = .ok (.aload_n 0, 1) := by decide +kernel
theorem dX5_trueTone_11 : decode cX5_trueTone 11 = .ok (.iload_n 1, 1) := by decide +kernel
theorem dX5_trueTone_12 : decode cX5_trueTone 12 = .ok (.iload_n 3, 1) := by decide +kernel
theorem dX5_trueTone_13 : decode cX5_trueTone 13 = .ok (.invokevirtual 122, 3) := by decide +kernel
theorem dX5_trueTone_16 : decode cX5_trueTone 16 = .ok (.aload_n 0, 1) := by decide +kernel
theorem dX5_trueTone_17 : decode cX5_trueTone 17 = .ok (.iload_n 1, 1) := by decide +kernel
theorem dX5_trueTone_18 : decode cX5_trueTone 18 = .ok (.iload_n 2, 1) := by decide +kernel
theorem dX5_trueTone_19 : decode cX5_trueTone 19 = .ok (.invokevirtual 122, 3) := by decide +kernel
theorem dX5_trueTone_22 : decode cX5_trueTone 22 = .ok (.if_icmp .le 5, 3) := by decide +kernel
theorem dX5_trueTone_25 : decode cX5_trueTone 25 = .ok (.iload_n 3, 1) := by decide +kernel
theorem dX5_trueTone_26 : decode cX5_trueTone 26 = .ok (.istore_n 2, 1) := by decide +kernel
theorem dX5_trueTone_27 : decode cX5_trueTone 27 = .ok (.iinc 3 1, 3) := by decide +kernel
theorem dX5_trueTone_30 : decode cX5_trueTone 30 = .ok (.goto (-26), 3) := by decide +kernel
theorem dX5_trueTone_33 : decode cX5_trueTone 33 = .ok (.iload_n 2, 1) := by decide +kernel
theorem dX5_trueTone_34 : decode cX5_trueTone 34 = .ok (.ireturn, 1) := by decide +kernel
theorem dX5_falseDays_0 : decode cX5_falseDays 0 = .ok (.iconst 0, 1) := by decide +kernel
theorem dX5_falseDays_1 : decode cX5_falseDays 1 = .ok (.istore_n 1, 1) := by decide +kernel
theorem dX5_falseDays_2 : decode cX5_falseDays 2 = .ok (.iconst 0, 1) := by decide +kernel
theorem dX5_falseDays_3 : decode cX5_falseDays 3 = .ok (.istore_n 2, 1) := by decide +kernel
theorem dX5_falseDays_4 : decode cX5_falseDays 4 = .ok (.iload_n 2, 1) := by decide +kernel
theorem dX5_falseDays_5 : decode cX5_falseDays 5 = .ok (.aload_n 0, 1) := by decide +kernel
theorem dX5_falseDays_6 : decode cX5_falseDays 6 = .ok (.getfield 53, 3) := by decide +kernel
theorem dX5_falseDays_9 : decode cX5_falseDays 9 = .ok (.if_icmp .ge 31, 3) := by decide +kernel
theorem dX5_falseDays_12 : decode cX5_falseDays 12 = .ok (.aload_n 0, 1) := by decide +kernel
theorem dX5_falseDays_13 : decode cX5_falseDays 13 = .ok (.getfield 18, 3) := by decide +kernel
theorem dX5_falseDays_16 : decode cX5_falseDays 16 = .ok (.iload_n 2, 1) := by decide +kernel
theorem dX5_falseDays_17 : decode cX5_falseDays 17 = .ok (.iaload, 1) := by decide +kernel
theorem dX5_falseDays_18 : decode cX5_falseDays 18 = .ok (.aload_n 0, 1) := by decide +kernel
theorem dX5_falseDays_19 : decode cX5_falseDays 19 = .ok (.aload_n 0, 1) := by decide +kernel
theorem dX5_falseDays_20 : decode cX5_falseDays 20 = .ok (.getfield 15, 3) := by decide +kernel
theorem dX5_falseDays_23 : decode cX5_falseDays 23 = .ok (.iload_n 2, 1) := by decide +kernel
theorem dX5_falseDays_24 : decode cX5_falseDays 24 = .ok (.iaload, 1) := by decide +kernel
theorem dX5_falseDays_25 : decode cX5_falseDays 25 = .ok (.invokevirtual 125, 3) := by decide +kernel
theorem dX5_falseDays_28 : decode cX5_falseDays 28 = .ok (.if_icmp .eq 6, 3) := by decide +kernel
theorem dX5_falseDays_31 : decode cX5_falseDays 31 = .ok (.iinc 1 1, 3) := by decide +kernel
theorem dX5_falseDays_34 : decode cX5_falseDays 34 = .ok (.iinc 2 1, 3) := by decide +kernel
theorem dX5_falseDays_37 : decode cX5_falseDays 37 = .ok (.goto (-33), 3) := by decide +kernel
theorem dX5_falseDays_40 : decode cX5_falseDays 40 = .ok (.iload_n 1, 1) := by decide +kernel
theorem dX5_falseDays_41 : decode cX5_falseDays 41 = .ok (.ireturn, 1) := by decide +kernel
theorem dX6_init_0 : decode cX6_init 0 = .ok (.aload_n 0, 1) := by decide +kernel
theorem dX6_init_1 : decode cX6_init 1 = .ok (.invokespecial 1, 3) := by decide +kernel
theorem dX6_init_4 : decode cX6_init 4 = .ok (.aload_n 0, 1) := by decide +kernel
theorem dX6_init_5 : decode cX6_init 5 = .ok (.new 7, 3) := by decide +kernel
theorem dX6_init_8 : decode cX6_init 8 = .ok (.dup, 1) := by decide +kernel
theorem dX6_init_9 : decode cX6_init 9 = .ok (.invokespecial 9, 3) := by decide +kernel
theorem dX6_init_12 : decode cX6_init 12 = .ok (.putfield 10, 3) := by decide +kernel
theorem dX6_init_15 : decode cX6_init 15 = .ok (.aload_n 0, 1) := by decide +kernel
theorem dX6_init_16 : decode cX6_init 16 = .ok (.new 16, 3) := by decide +kernel
theorem dX6_init_19 : decode cX6_init 19 = .ok (.dup, 1) := by decide +kernel
theorem dX6_init_20 : decode cX6_init 20 = .ok (.invokespecial 18, 3) := by decide +kernel
theorem dX6_init_23 : decode cX6_init 23 = .ok (.putfield 19, 3) := by decide +kernel
theorem dX6_init_26 : decode cX6_init 26 = .ok (.aload_n 0, 1) := by decide +kernel
theorem dX6_init_27 : decode cX6_init 27 = .ok (.new 23, 3) := by decide +kernel
theorem dX6_init_30 : decode cX6_init 30 = .ok (.dup, 1) := by decide +kernel
theorem dX6_init_31 : decode cX6_init 31 = .ok (.aload_n 0, 1) := by decide +kernel
theorem dX6_init_32 : decode cX6_init 32 = .ok (.getfield 10, 3) := by decide +kernel
theorem dX6_init_35 : decode cX6_init 35 = .ok (.invokespecial 25, 3) := by decide +kernel
theorem dX6_init_38 : decode cX6_init 38 = .ok (.putfield 28, 3) := by decide +kernel
theorem dX6_init_41 : decode cX6_init 41 = .ok (.aload_n 0, 1) := by decide +kernel
theorem dX6_init_42 : decode cX6_init 42 = .ok (.new 23, 3) := by decide +kernel
theorem dX6_init_45 : decode cX6_init 45 = .ok (.dup, 1) := by decide +kernel
theorem dX6_init_46 : decode cX6_init 46 = .ok (.aload_n 0, 1) := by decide +kernel
theorem dX6_init_47 : decode cX6_init 47 = .ok (.getfield 10, 3) := by decide +kernel
theorem dX6_init_50 : decode cX6_init 50 = .ok (.invokespecial 25, 3) := by decide +kernel
theorem dX6_init_53 : decode cX6_init 53 = .ok (.putfield 32, 3) := by decide +kernel
theorem dX6_init_56 : decode cX6_init 56 = .ok (.aload_n 0, 1) := by decide +kernel
theorem dX6_init_57 : decode cX6_init 57 = .ok (.new 23, 3) := by decide +kernel
theorem dX6_init_60 : decode cX6_init 60 = .ok (.dup, 1) := by decide +kernel
theorem dX6_init_61 : decode cX6_init 61 = .ok (.aload_n 0, 1) := by decide +kernel
theorem dX6_init_62 : decode cX6_init 62 = .ok (.getfield 10, 3) := by decide +kernel
theorem dX6_init_65 : decode cX6_init 65 = .ok (.invokespecial 25, 3) := by decide +kernel
theorem dX6_init_68 : decode cX6_init 68 = .ok (.putfield 35, 3) := by decide +kernel
theorem dX6_init_71 : decode cX6_init 71 = .ok (.aload_n 0, 1) := by decide +kernel
theorem dX6_init_72 : decode cX6_init 72 = .ok (.new 38, 3) := by decide +kernel
theorem dX6_init_75 : decode cX6_init 75 = .ok (.dup, 1) := by decide +kernel
theorem dX6_init_76 : decode cX6_init 76 = .ok (.invokespecial 40, 3) := by decide +kernel
theorem dX6_init_79 : decode cX6_init 79 = .ok (.putfield 41, 3) := by decide +kernel
theorem dX6_init_82 : decode cX6_init 82 = .ok (.aload_n 0, 1) := by decide +kernel
theorem dX6_init_83 : decode cX6_init 83 = .ok (.bipush 10, 2) := by decide +kernel
theorem dX6_init_85 : decode cX6_init 85 = .ok (.newarray .int, 2) := by decide +kernel
theorem dX6_init_87 : decode cX6_init 87 = .ok (.putfield 45, 3) := by decide +kernel
theorem dX6_init_90 : decode cX6_init 90 = .ok (.aload_n 0, 1) := by decide +kernel
theorem dX6_init_91 : decode cX6_init 91 = .ok (.iconst 4, 1) := by decide +kernel
theorem dX6_init_92 : decode cX6_init 92 = .ok (.anewarray 49, 3) := by decide +kernel
theorem dX6_init_95 : decode cX6_init 95 = .ok (.putfield 51, 3) := by decide +kernel
theorem dX6_init_98 : decode cX6_init 98 = .ok (.iconst 0, 1) := by decide +kernel
theorem dX6_init_99 : decode cX6_init 99 = .ok (.istore_n 1, 1) := by decide +kernel
theorem dX6_init_100 : decode cX6_init 100 = .ok (.iload_n 1, 1) := by decide +kernel
theorem dX6_init_101 : decode cX6_init 101 = .ok (.iconst 4, 1) := by decide +kernel
theorem dX6_init_102 : decode cX6_init 102 = .ok (.if_icmp .ge 22, 3) := by decide +kernel
theorem dX6_init_105 : decode cX6_init 105 = .ok (.aload_n 0, 1) := by decide +kernel
theorem dX6_init_106 : decode cX6_init 106 = .ok (.getfield 51, 3) := by decide +kernel
theorem dX6_init_109 : decode cX6_init 109 = .ok (.iload_n 1, 1) := by decide +kernel
theorem dX6_init_110 : decode cX6_init 110 = .ok (.new 49, 3) := by decide +kernel
theorem dX6_init_113 : decode cX6_init 113 = .ok (.dup, 1) := by decide +kernel
theorem dX6_init_114 : decode cX6_init 114 = .ok (.invokespecial 55, 3) := by decide +kernel
theorem dX6_init_117 : decode cX6_init 117 = .ok (.aastore, 1) := by decide +kernel
theorem dX6_init_118 : decode cX6_init 118 = .ok (.iinc 1 1, 3) := by decide +kernel
theorem dX6_init_121 : decode cX6_init 121 = .ok (.goto (-21), 3) := by decide +kernel
theorem dX6_init_124 : decode cX6_init 124 = .ok (.aload_n 0, 1) := by decide +kernel
theorem dX6_init_125 : decode cX6_init 125 = .ok (.iconst 5, 1) := by decide +kernel
theorem dX6_init_126 : decode cX6_init 126 = .ok (.anewarray 56, 3) := by decide +kernel
theorem dX6_init_129 : decode cX6_init 129 = .ok (.putfield 58, 3) := by decide +kernel
theorem dX6_init_132 : decode cX6_init 132 = .ok (.iconst 0, 1) := by decide +kernel
theorem dX6_init_133 : decode cX6_init 133 = .ok (.istore_n 1, 1) := by decide +kernel
theorem dX6_init_134 : decode cX6_init 134 = .ok (.iload_n 1, 1) := by decide +kernel
theorem dX6_init_135 : decode cX6_init 135 = .ok (.iconst 5, 1) := by decide +kernel
theorem dX6_init_136 : decode cX6_init 136 = .ok (.if_icmp .ge 22, 3) := by decide +kernel
theorem dX6_init_139 : decode cX6_init 139 = .ok (.aload_n 0, 1) := by decide +kernel
theorem dX6_init_140 : decode cX6_init 140 = .ok (.getfield 58, 3) := by decide +kernel
theorem dX6_init_143 : decode cX6_init 143 = .ok (.iload_n 1, 1) := by decide +kernel
theorem dX6_init_144 : decode cX6_init 144 = .ok (.new 56, 3) := by decide +kernel
theorem dX6_init_147 : decode cX6_init 147 = .ok (.dup, 1) := by decide +kernel
theorem dX6_init_148 : decode cX6_init 148 = .ok (.invokespecial 62, 3) := by decide +kernel
theorem dX6_init_151 : decode cX6_init 151 = .ok (.aastore, 1) := by decide +kernel
theorem dX6_init_152 : decode cX6_init 152 = .ok (.iinc 1 1, 3) := by decide +kernel
theorem dX6_init_155 : decode cX6_init 155 = .ok (.goto (-21), 3) := by decide +kernel
theorem dX6_init_158 : decode cX6_init 158 = .ok (.aload_n 0, 1) := by decide +kernel
theorem dX6_init_159 : decode cX6_init 159 = .ok (.bipush 60, 2) := by decide +kernel
theorem dX6_init_161 : decode cX6_init 161 = .ok (.newarray .int, 2) := by decide +kernel
theorem dX6_init_163 : decode cX6_init 163 = .ok (.putfield 63, 3) := by decide +kernel
theorem dX6_init_166 : decode cX6_init 166 = .ok (.aload_n 0, 1) := by decide +kernel
theorem dX6_init_167 : decode cX6_init 167 = .ok (.iconst 0, 1) := by decide +kernel
theorem dX6_init_168 : decode cX6_init 168 = .ok (.putfield 66, 3) := by decide +kernel
theorem dX6_init_171 : decode cX6_init 171 = .ok (.aload_n 0, 1) := by decide +kernel
theorem dX6_init_172 : decode cX6_init 172 = .ok (.iconst 0, 1) := by decide +kernel
theorem dX6_init_173 : decode cX6_init 173 = .ok (.putfield 70, 3) := by decide +kernel
theorem dX6_init_176 : decode cX6_init 176 = .ok (.return_, 1) := by decide +kernel
theorem dX6_day_0 : decode cX6_day 0 = .ok (.iload_n 1, 1) := by decide +kernel
theorem dX6_day_1 : decode cX6_day 1 = .ok (.invokestatic 74, 3) := by decide +kernel
theorem dX6_day_4 : decode cX6_day 4 = .ok (.ifCond .eq 31, 3) := by decide +kernel
theorem dX6_day_7 : decode cX6_day 7 = .ok (.iload_n 2, 1) := by decide +kernel
theorem dX6_day_8 : decode cX6_day 8 = .ok (.iconst 0, 1) := by decide +kernel
theorem dX6_day_9 : decode cX6_day 9 = .ok (.bipush 99, 2) := by decide +kernel
theorem dX6_day_11 : decode cX6_day 11 = .ok (.invokestatic 78, 3) := by decide +kernel
theorem dX6_day_14 : decode cX6_day 14 = .ok (.ifCond .eq 21, 3) := by decide +kernel
theorem dX6_day_17 : decode cX6_day 17 = .ok (.iload_n 3, 1) := by decide +kernel
theorem dX6_day_18 : decode cX6_day 18 = .ok (.iconst 0, 1) := by decide +kernel
theorem dX6_day_19 : decode cX6_day 19 = .ok (.bipush 9, 2) := by decide +kernel
theorem dX6_day_21 : decode cX6_day 21 = .ok (.invokestatic 78, 3) := by decide +kernel
theorem dX6_day_24 : decode cX6_day 24 = .ok (.ifCond .eq 11, 3) := by decide +kernel
theorem dX6_day_27 : decode cX6_day 27 = .ok (.iload 4, 2) := by decide +kernel
theorem dX6_day_29 : decode cX6_day 29 = .ok (.invokestatic 82, 3) := by decide +kernel
theorem dX6_day_32 : decode cX6_day 32 = .ok (.ifCond .ne 6, 3) := by decide +kernel
theorem dX6_day_35 : decode cX6_day 35 = .ok (.ldc 85, 2) := by decide +kernel
theorem dX6_day_37 : decode cX6_day 37 = .ok (.ireturn, 1) := by decide +kernel
theorem dX6_day_38 : decode cX6_day 38 = .ok (.aload_n 0, 1) := by decide +kernel
theorem dX6_day_39 : decode cX6_day 39 = .ok (.getfield 28, 3) := by decide +kernel
theorem dX6_day_42 : decode cX6_day 42 = .ok (.getfield 86, 3) := by decide +kernel
theorem dX6_day_45 : decode cX6_day 45 = .ok (.bipush 10, 2) := by decide +kernel
theorem dX6_day_47 : decode cX6_day 47 = .ok (.if_icmp .lt 6, 3) := by decide +kernel
theorem dX6_day_50 : decode cX6_day 50 = .ok (.ldc 89, 2) := by decide +kernel
theorem dX6_day_52 : decode cX6_day 52 = .ok (.ireturn, 1) := by decide +kernel
theorem dX6_day_53 : decode cX6_day 53 = .ok (.aload_n 0, 1) := by decide +kernel
theorem dX6_day_54 : decode cX6_day 54 = .ok (.getfield 28, 3) := by decide +kernel
theorem dX6_day_57 : decode cX6_day 57 = .ok (.iload_n 1, 1) := by decide +kernel
theorem dX6_day_58 : decode cX6_day 58 = .ok (.iload_n 2, 1) := by decide +kernel
theorem dX6_day_59 : decode cX6_day 59 = .ok (.iload_n 3, 1) := by decide +kernel
theorem dX6_day_60 : decode cX6_day 60 = .ok (.iload 4, 2) := by decide +kernel
theorem dX6_day_62 : decode cX6_day 62 = .ok (.invokevirtual 90, 3) := by decide +kernel
theorem dX6_day_65 : decode cX6_day 65 = .ok (.ireturn, 1) := by decide +kernel
theorem dX6_told_0 : decode cX6_told 0 = .ok (.aload_n 0, 1) := by decide +kernel
theorem dX6_told_1 : decode cX6_told 1 = .ok (.iload_n 1, 1) := by decide +kernel
theorem dX6_told_2 : decode cX6_told 2 = .ok (.invokevirtual 94, 3) := by decide +kernel
theorem dX6_told_5 : decode cX6_told 5 = .ok (.ifCond .ne 6, 3) := by decide +kernel
theorem dX6_told_8 : decode cX6_told 8 = .ok (.ldc 85, 2) := by decide +kernel
theorem dX6_told_10 : decode cX6_told 10 = .ok (.ireturn, 1) := by decide +kernel
theorem dX6_told_11 : decode cX6_told 11 = .ok (.iload_n 2, 1) := by decide +kernel
theorem dX6_told_12 : decode cX6_told 12 = .ok (.tableswitch 139 0 7 #[48, 58, 68, 78, 88, 98, 108, 117], 48) := by decide +kernel
theorem dX6_told_60 : decode cX6_told 60 = .ok (.aload_n 0, 1) := by decide +kernel
theorem dX6_told_61 : decode cX6_told 61 = .ok (.getfield 28, 3) := by decide +kernel
theorem dX6_told_64 : decode cX6_told 64 = .ok (.getfield 97, 3) := by decide +kernel
theorem dX6_told_67 : decode cX6_told 67 = .ok (.iload_n 1, 1) := by decide +kernel
theorem dX6_told_68 : decode cX6_told 68 = .ok (.iaload, 1) := by decide +kernel
theorem dX6_told_69 : decode cX6_told 69 = .ok (.ireturn, 1) := by decide +kernel
theorem dX6_told_70 : decode cX6_told 70 = .ok (.aload_n 0, 1) := by decide +kernel
theorem dX6_told_71 : decode cX6_told 71 = .ok (.getfield 28, 3) := by decide +kernel
theorem dX6_told_74 : decode cX6_told 74 = .ok (.getfield 100, 3) := by decide +kernel
theorem dX6_told_77 : decode cX6_told 77 = .ok (.iload_n 1, 1) := by decide +kernel
theorem dX6_told_78 : decode cX6_told 78 = .ok (.iaload, 1) := by decide +kernel
theorem dX6_told_79 : decode cX6_told 79 = .ok (.ireturn, 1) := by decide +kernel
theorem dX6_told_80 : decode cX6_told 80 = .ok (.aload_n 0, 1) := by decide +kernel
theorem dX6_told_81 : decode cX6_told 81 = .ok (.getfield 28, 3) := by decide +kernel
theorem dX6_told_84 : decode cX6_told 84 = .ok (.getfield 103, 3) := by decide +kernel
theorem dX6_told_87 : decode cX6_told 87 = .ok (.iload_n 1, 1) := by decide +kernel
theorem dX6_told_88 : decode cX6_told 88 = .ok (.iaload, 1) := by decide +kernel
theorem dX6_told_89 : decode cX6_told 89 = .ok (.ireturn, 1) := by decide +kernel
theorem dX6_told_90 : decode cX6_told 90 = .ok (.aload_n 0, 1) := by decide +kernel
theorem dX6_told_91 : decode cX6_told 91 = .ok (.getfield 28, 3) := by decide +kernel
theorem dX6_told_94 : decode cX6_told 94 = .ok (.getfield 106, 3) := by decide +kernel
theorem dX6_told_97 : decode cX6_told 97 = .ok (.iload_n 1, 1) := by decide +kernel
theorem dX6_told_98 : decode cX6_told 98 = .ok (.iaload, 1) := by decide +kernel
theorem dX6_told_99 : decode cX6_told 99 = .ok (.ireturn, 1) := by decide +kernel
theorem dX6_told_100 : decode cX6_told 100 = .ok (.aload_n 0, 1) := by decide +kernel
theorem dX6_told_101 : decode cX6_told 101 = .ok (.getfield 28, 3) := by decide +kernel
theorem dX6_told_104 : decode cX6_told 104 = .ok (.getfield 109, 3) := by decide +kernel
theorem dX6_told_107 : decode cX6_told 107 = .ok (.iload_n 1, 1) := by decide +kernel
theorem dX6_told_108 : decode cX6_told 108 = .ok (.iaload, 1) := by decide +kernel
theorem dX6_told_109 : decode cX6_told 109 = .ok (.ireturn, 1) := by decide +kernel
theorem dX6_told_110 : decode cX6_told 110 = .ok (.aload_n 0, 1) := by decide +kernel
theorem dX6_told_111 : decode cX6_told 111 = .ok (.getfield 28, 3) := by decide +kernel
theorem dX6_told_114 : decode cX6_told 114 = .ok (.getfield 112, 3) := by decide +kernel
theorem dX6_told_117 : decode cX6_told 117 = .ok (.iload_n 1, 1) := by decide +kernel
theorem dX6_told_118 : decode cX6_told 118 = .ok (.iaload, 1) := by decide +kernel
theorem dX6_told_119 : decode cX6_told 119 = .ok (.ireturn, 1) := by decide +kernel
theorem dX6_told_120 : decode cX6_told 120 = .ok (.aload_n 0, 1) := by decide +kernel
theorem dX6_told_121 : decode cX6_told 121 = .ok (.getfield 28, 3) := by decide +kernel
theorem dX6_told_124 : decode cX6_told 124 = .ok (.iload_n 1, 1) := by decide +kernel
theorem dX6_told_125 : decode cX6_told 125 = .ok (.invokevirtual 115, 3) := by decide +kernel
theorem dX6_told_128 : decode cX6_told 128 = .ok (.ireturn, 1) := by decide +kernel
theorem dX6_told_129 : decode cX6_told 129 = .ok (.aload_n 0, 1) := by decide +kernel
theorem dX6_told_130 : decode cX6_told 130 = .ok (.getfield 28, 3) := by decide +kernel
theorem dX6_told_133 : decode cX6_told 133 = .ok (.getfield 97, 3) := by decide +kernel
theorem dX6_told_136 : decode cX6_told 136 = .ok (.iload_n 1, 1) := by decide +kernel
theorem dX6_told_137 : decode cX6_told 137 = .ok (.iaload, 1) := by decide +kernel
theorem dX6_told_138 : decode cX6_told 138 = .ok (.aload_n 0, 1) := by decide +kernel
theorem dX6_told_139 : decode cX6_told 139 = .ok (.getfield 28, 3) := by decide +kernel
theorem dX6_told_142 : decode cX6_told 142 = .ok (.getfield 100, 3) := by decide +kernel
theorem dX6_told_145 : decode cX6_told 145 = .ok (.iload_n 1, 1) := by decide +kernel
theorem dX6_told_146 : decode cX6_told 146 = .ok (.iaload, 1) := by decide +kernel
theorem dX6_told_147 : decode cX6_told 147 = .ok (.invokestatic 119, 3) := by decide +kernel
theorem dX6_told_150 : decode cX6_told 150 = .ok (.ireturn, 1) := by decide +kernel
theorem dX6_told_151 : decode cX6_told 151 = .ok (.ldc 85, 2) := by decide +kernel
theorem dX6_told_153 : decode cX6_told 153 = .ok (.ireturn, 1) := by decide +kernel
theorem dX6_as_0 : decode cX6_as 0 = .ok (.aload_n 0, 1) := by decide +kernel
theorem dX6_as_1 : decode cX6_as 1 = .ok (.iload_n 1, 1) := by decide +kernel
theorem dX6_as_2 : decode cX6_as 2 = .ok (.invokevirtual 94, 3) := by decide +kernel
theorem dX6_as_5 : decode cX6_as 5 = .ok (.ifCond .eq 10, 3) := by decide +kernel
theorem dX6_as_8 : decode cX6_as 8 = .ok (.iload_n 2, 1) := by decide +kernel
theorem dX6_as_9 : decode cX6_as 9 = .ok (.invokestatic 74, 3) := by decide +kernel
theorem dX6_as_12 : decode cX6_as 12 = .ok (.ifCond .ne 6, 3) := by decide +kernel
theorem dX6_as_15 : decode cX6_as 15 = .ok (.ldc 85, 2) := by decide +kernel
theorem dX6_as_17 : decode cX6_as 17 = .ok (.ireturn, 1) := by decide +kernel
theorem dX6_as_18 : decode cX6_as 18 = .ok (.aload_n 0, 1) := by decide +kernel
theorem dX6_as_19 : decode cX6_as 19 = .ok (.getfield 28, 3) := by decide +kernel
theorem dX6_as_22 : decode cX6_as 22 = .ok (.getfield 97, 3) := by decide +kernel
theorem dX6_as_25 : decode cX6_as 25 = .ok (.iload_n 1, 1) := by decide +kernel
theorem dX6_as_26 : decode cX6_as 26 = .ok (.iaload, 1) := by decide +kernel
theorem dX6_as_27 : decode cX6_as 27 = .ok (.iload_n 2, 1) := by decide +kernel
theorem dX6_as_28 : decode cX6_as 28 = .ok (.invokestatic 123, 3) := by decide +kernel
theorem dX6_as_31 : decode cX6_as 31 = .ok (.ifCond .eq 15, 3) := by decide +kernel
theorem dX6_as_34 : decode cX6_as 34 = .ok (.aload_n 0, 1) := by decide +kernel
theorem dX6_as_35 : decode cX6_as 35 = .ok (.getfield 28, 3) := by decide +kernel
theorem dX6_as_38 : decode cX6_as 38 = .ok (.getfield 100, 3) := by decide +kernel
theorem dX6_as_41 : decode cX6_as 41 = .ok (.iload_n 1, 1) := by decide +kernel
theorem dX6_as_42 : decode cX6_as 42 = .ok (.iaload, 1) := by decide +kernel
theorem dX6_as_43 : decode cX6_as 43 = .ok (.goto 5, 3) := by decide +kernel
theorem dX6_as_46 : decode cX6_as 46 = .ok (.ldc 127, 2) := by decide +kernel
theorem dX6_as_48 : decode cX6_as 48 = .ok (.ireturn, 1) := by decide +kernel
theorem dX6_turns_0 : decode cX6_turns 0 = .ok (.aload_n 0, 1) := by decide +kernel
theorem dX6_turns_1 : decode cX6_turns 1 = .ok (.iload_n 1, 1) := by decide +kernel
theorem dX6_turns_2 : decode cX6_turns 2 = .ok (.invokevirtual 94, 3) := by decide +kernel
theorem dX6_turns_5 : decode cX6_turns 5 = .ok (.ifCond .eq 10, 3) := by decide +kernel
theorem dX6_turns_8 : decode cX6_turns 8 = .ok (.iload_n 2, 1) := by decide +kernel
theorem dX6_turns_9 : decode cX6_turns 9 = .ok (.invokestatic 74, 3) := by decide +kernel
theorem dX6_turns_12 : decode cX6_turns 12 = .ok (.ifCond .ne 6, 3) := by decide +kernel
theorem dX6_turns_15 : decode cX6_turns 15 = .ok (.ldc 85, 2) := by decide +kernel
theorem dX6_turns_17 : decode cX6_turns 17 = .ok (.ireturn, 1) := by decide +kernel
theorem dX6_turns_18 : decode cX6_turns 18 = .ok (.aload_n 0, 1) := by decide +kernel
theorem dX6_turns_19 : decode cX6_turns 19 = .ok (.getfield 28, 3) := by decide +kernel
theorem dX6_turns_22 : decode cX6_turns 22 = .ok (.getfield 97, 3) := by decide +kernel
theorem dX6_turns_25 : decode cX6_turns 25 = .ok (.iload_n 1, 1) := by decide +kernel
theorem dX6_turns_26 : decode cX6_turns 26 = .ok (.iload_n 2, 1) := by decide +kernel
theorem dX6_turns_27 : decode cX6_turns 27 = .ok (.invokestatic 128, 3) := by decide +kernel
theorem dX6_turns_30 : decode cX6_turns 30 = .ok (.ireturn, 1) := by decide +kernel
theorem dX6_set_0 : decode cX6_set 0 = .ok (.aload_n 0, 1) := by decide +kernel
theorem dX6_set_1 : decode cX6_set 1 = .ok (.iload_n 1, 1) := by decide +kernel
theorem dX6_set_2 : decode cX6_set 2 = .ok (.invokevirtual 94, 3) := by decide +kernel
theorem dX6_set_5 : decode cX6_set 5 = .ok (.ifCond .ne 6, 3) := by decide +kernel
theorem dX6_set_8 : decode cX6_set 8 = .ok (.ldc 85, 2) := by decide +kernel
theorem dX6_set_10 : decode cX6_set 10 = .ok (.ireturn, 1) := by decide +kernel
theorem dX6_set_11 : decode cX6_set 11 = .ok (.iload_n 2, 1) := by decide +kernel
theorem dX6_set_12 : decode cX6_set 12 = .ok (.tableswitch 112 1 3 #[28, 56, 84], 28) := by decide +kernel
theorem dX6_set_40 : decode cX6_set 40 = .ok (.iload_n 3, 1) := by decide +kernel
theorem dX6_set_41 : decode cX6_set 41 = .ok (.iconst 0, 1) := by decide +kernel
theorem dX6_set_42 : decode cX6_set 42 = .ok (.bipush 99, 2) := by decide +kernel
theorem dX6_set_44 : decode cX6_set 44 = .ok (.invokestatic 78, 3) := by decide +kernel
theorem dX6_set_47 : decode cX6_set 47 = .ok (.ifCond .eq 18, 3) := by decide +kernel
theorem dX6_set_50 : decode cX6_set 50 = .ok (.aload_n 0, 1) := by decide +kernel
theorem dX6_set_51 : decode cX6_set 51 = .ok (.getfield 28, 3) := by decide +kernel
theorem dX6_set_54 : decode cX6_set 54 = .ok (.getfield 100, 3) := by decide +kernel
theorem dX6_set_57 : decode cX6_set 57 = .ok (.iload_n 1, 1) := by decide +kernel
theorem dX6_set_58 : decode cX6_set 58 = .ok (.iload_n 3, 1) := by decide +kernel
theorem dX6_set_59 : decode cX6_set 59 = .ok (.invokestatic 128, 3) := by decide +kernel
theorem dX6_set_62 : decode cX6_set 62 = .ok (.goto 5, 3) := by decide +kernel
theorem dX6_set_65 : decode cX6_set 65 = .ok (.ldc 85, 2) := by decide +kernel
theorem dX6_set_67 : decode cX6_set 67 = .ok (.ireturn, 1) := by decide +kernel
theorem dX6_set_68 : decode cX6_set 68 = .ok (.iload_n 3, 1) := by decide +kernel
theorem dX6_set_69 : decode cX6_set 69 = .ok (.iconst 0, 1) := by decide +kernel
theorem dX6_set_70 : decode cX6_set 70 = .ok (.bipush 9, 2) := by decide +kernel
theorem dX6_set_72 : decode cX6_set 72 = .ok (.invokestatic 78, 3) := by decide +kernel
theorem dX6_set_75 : decode cX6_set 75 = .ok (.ifCond .eq 18, 3) := by decide +kernel
theorem dX6_set_78 : decode cX6_set 78 = .ok (.aload_n 0, 1) := by decide +kernel
theorem dX6_set_79 : decode cX6_set 79 = .ok (.getfield 28, 3) := by decide +kernel
theorem dX6_set_82 : decode cX6_set 82 = .ok (.getfield 103, 3) := by decide +kernel
theorem dX6_set_85 : decode cX6_set 85 = .ok (.iload_n 1, 1) := by decide +kernel
theorem dX6_set_86 : decode cX6_set 86 = .ok (.iload_n 3, 1) := by decide +kernel
theorem dX6_set_87 : decode cX6_set 87 = .ok (.invokestatic 128, 3) := by decide +kernel
theorem dX6_set_90 : decode cX6_set 90 = .ok (.goto 5, 3) := by decide +kernel
theorem dX6_set_93 : decode cX6_set 93 = .ok (.ldc 85, 2) := by decide +kernel
theorem dX6_set_95 : decode cX6_set 95 = .ok (.ireturn, 1) := by decide +kernel
theorem dX6_set_96 : decode cX6_set 96 = .ok (.iload_n 3, 1) := by decide +kernel
theorem dX6_set_97 : decode cX6_set 97 = .ok (.iconst 0, 1) := by decide +kernel
theorem dX6_set_98 : decode cX6_set 98 = .ok (.bipush 99, 2) := by decide +kernel
theorem dX6_set_100 : decode cX6_set 100 = .ok (.invokestatic 78, 3) := by decide +kernel
theorem dX6_set_103 : decode cX6_set 103 = .ok (.ifCond .eq 18, 3) := by decide +kernel
theorem dX6_set_106 : decode cX6_set 106 = .ok (.aload_n 0, 1) := by decide +kernel
theorem dX6_set_107 : decode cX6_set 107 = .ok (.getfield 28, 3) := by decide +kernel
theorem dX6_set_110 : decode cX6_set 110 = .ok (.getfield 106, 3) := by decide +kernel
theorem dX6_set_113 : decode cX6_set 113 = .ok (.iload_n 1, 1) := by decide +kernel
theorem dX6_set_114 : decode cX6_set 114 = .ok (.iload_n 3, 1) := by decide +kernel
theorem dX6_set_115 : decode cX6_set 115 = .ok (.invokestatic 128, 3) := by decide +kernel
theorem dX6_set_118 : decode cX6_set 118 = .ok (.goto 5, 3) := by decide +kernel
theorem dX6_set_121 : decode cX6_set 121 = .ok (.ldc 85, 2) := by decide +kernel
theorem dX6_set_123 : decode cX6_set 123 = .ok (.ireturn, 1) := by decide +kernel
theorem dX6_set_124 : decode cX6_set 124 = .ok (.ldc 85, 2) := by decide +kernel
theorem dX6_set_126 : decode cX6_set 126 = .ok (.ireturn, 1) := by decide +kernel
theorem dX6_one_0 : decode cX6_one 0 = .ok (.iload_n 1, 1) := by decide +kernel
theorem dX6_one_1 : decode cX6_one 1 = .ok (.invokestatic 82, 3) := by decide +kernel
theorem dX6_one_4 : decode cX6_one 4 = .ok (.ifCond .ne 6, 3) := by decide +kernel
theorem dX6_one_7 : decode cX6_one 7 = .ok (.ldc 85, 2) := by decide +kernel
theorem dX6_one_9 : decode cX6_one 9 = .ok (.ireturn, 1) := by decide +kernel
theorem dX6_one_10 : decode cX6_one 10 = .ok (.iload_n 2, 1) := by decide +kernel
theorem dX6_one_11 : decode cX6_one 11 = .ok (.tableswitch 54 0 2 #[25, 35, 45], 25) := by decide +kernel
theorem dX6_one_36 : decode cX6_one 36 = .ok (.aload_n 0, 1) := by decide +kernel
theorem dX6_one_37 : decode cX6_one 37 = .ok (.getfield 28, 3) := by decide +kernel
theorem dX6_one_40 : decode cX6_one 40 = .ok (.getfield 132, 3) := by decide +kernel
theorem dX6_one_43 : decode cX6_one 43 = .ok (.iload_n 1, 1) := by decide +kernel
theorem dX6_one_44 : decode cX6_one 44 = .ok (.iaload, 1) := by decide +kernel
theorem dX6_one_45 : decode cX6_one 45 = .ok (.ireturn, 1) := by decide +kernel
theorem dX6_one_46 : decode cX6_one 46 = .ok (.aload_n 0, 1) := by decide +kernel
theorem dX6_one_47 : decode cX6_one 47 = .ok (.getfield 28, 3) := by decide +kernel
theorem dX6_one_50 : decode cX6_one 50 = .ok (.getfield 135, 3) := by decide +kernel
theorem dX6_one_53 : decode cX6_one 53 = .ok (.iload_n 1, 1) := by decide +kernel
theorem dX6_one_54 : decode cX6_one 54 = .ok (.iaload, 1) := by decide +kernel
theorem dX6_one_55 : decode cX6_one 55 = .ok (.ireturn, 1) := by decide +kernel
theorem dX6_one_56 : decode cX6_one 56 = .ok (.aload_n 0, 1) := by decide +kernel
theorem dX6_one_57 : decode cX6_one 57 = .ok (.getfield 28, 3) := by decide +kernel
theorem dX6_one_60 : decode cX6_one 60 = .ok (.iload_n 1, 1) := by decide +kernel
theorem dX6_one_61 : decode cX6_one 61 = .ok (.invokevirtual 138, 3) := by decide +kernel
theorem dX6_one_64 : decode cX6_one 64 = .ok (.ireturn, 1) := by decide +kernel
theorem dX6_one_65 : decode cX6_one 65 = .ok (.ldc 85, 2) := by decide +kernel
theorem dX6_one_67 : decode cX6_one 67 = .ok (.ireturn, 1) := by decide +kernel
theorem dX6_gives_0 : decode cX6_gives 0 = .ok (.iload_n 1, 1) := by decide +kernel
theorem dX6_gives_1 : decode cX6_gives 1 = .ok (.invokestatic 82, 3) := by decide +kernel
theorem dX6_gives_4 : decode cX6_gives 4 = .ok (.ifCond .ne 6, 3) := by decide +kernel
theorem dX6_gives_7 : decode cX6_gives 7 = .ok (.ldc 85, 2) := by decide +kernel
theorem dX6_gives_9 : decode cX6_gives 9 = .ok (.ireturn, 1) := by decide +kernel
theorem dX6_gives_10 : decode cX6_gives 10 = .ok (.iload_n 2, 1) := by decide +kernel
theorem dX6_gives_11 : decode cX6_gives 11 = .ok (.lookupswitch 82 #[(0, 25), (1, 54)], 25) := by decide +kernel
theorem dX6_gives_36 : decode cX6_gives 36 = .ok (.iload_n 3, 1) := by decide +kernel
theorem dX6_gives_37 : decode cX6_gives 37 = .ok (.iconst 0, 1) := by decide +kernel
theorem dX6_gives_38 : decode cX6_gives 38 = .ok (.sipush 9999, 3) := by decide +kernel
theorem dX6_gives_41 : decode cX6_gives 41 = .ok (.invokestatic 78, 3) := by decide +kernel
theorem dX6_gives_44 : decode cX6_gives 44 = .ok (.ifCond .eq 18, 3) := by decide +kernel
theorem dX6_gives_47 : decode cX6_gives 47 = .ok (.aload_n 0, 1) := by decide +kernel
theorem dX6_gives_48 : decode cX6_gives 48 = .ok (.getfield 28, 3) := by decide +kernel
theorem dX6_gives_51 : decode cX6_gives 51 = .ok (.getfield 132, 3) := by decide +kernel
theorem dX6_gives_54 : decode cX6_gives 54 = .ok (.iload_n 1, 1) := by decide +kernel
theorem dX6_gives_55 : decode cX6_gives 55 = .ok (.iload_n 3, 1) := by decide +kernel
theorem dX6_gives_56 : decode cX6_gives 56 = .ok (.invokestatic 128, 3) := by decide +kernel
theorem dX6_gives_59 : decode cX6_gives 59 = .ok (.goto 5, 3) := by decide +kernel
theorem dX6_gives_62 : decode cX6_gives 62 = .ok (.ldc 85, 2) := by decide +kernel
theorem dX6_gives_64 : decode cX6_gives 64 = .ok (.ireturn, 1) := by decide +kernel
theorem dX6_gives_65 : decode cX6_gives 65 = .ok (.iload_n 3, 1) := by decide +kernel
theorem dX6_gives_66 : decode cX6_gives 66 = .ok (.iconst 0, 1) := by decide +kernel
theorem dX6_gives_67 : decode cX6_gives 67 = .ok (.bipush 9, 2) := by decide +kernel
theorem dX6_gives_69 : decode cX6_gives 69 = .ok (.invokestatic 78, 3) := by decide +kernel
theorem dX6_gives_72 : decode cX6_gives 72 = .ok (.ifCond .eq 18, 3) := by decide +kernel
theorem dX6_gives_75 : decode cX6_gives 75 = .ok (.aload_n 0, 1) := by decide +kernel
theorem dX6_gives_76 : decode cX6_gives 76 = .ok (.getfield 28, 3) := by decide +kernel
theorem dX6_gives_79 : decode cX6_gives 79 = .ok (.getfield 135, 3) := by decide +kernel
theorem dX6_gives_82 : decode cX6_gives 82 = .ok (.iload_n 1, 1) := by decide +kernel
theorem dX6_gives_83 : decode cX6_gives 83 = .ok (.iload_n 3, 1) := by decide +kernel
theorem dX6_gives_84 : decode cX6_gives 84 = .ok (.invokestatic 128, 3) := by decide +kernel
theorem dX6_gives_87 : decode cX6_gives 87 = .ok (.goto 5, 3) := by decide +kernel
theorem dX6_gives_90 : decode cX6_gives 90 = .ok (.ldc 85, 2) := by decide +kernel
theorem dX6_gives_92 : decode cX6_gives 92 = .ok (.ireturn, 1) := by decide +kernel
theorem dX6_gives_93 : decode cX6_gives 93 = .ok (.ldc 85, 2) := by decide +kernel
theorem dX6_gives_95 : decode cX6_gives 95 = .ok (.ireturn, 1) := by decide +kernel
theorem dX6_offer_0 : decode cX6_offer 0 = .ok (.iload_n 1, 1) := by decide +kernel
theorem dX6_offer_1 : decode cX6_offer 1 = .ok (.invokestatic 82, 3) := by decide +kernel
theorem dX6_offer_4 : decode cX6_offer 4 = .ok (.ifCond .eq 11, 3) := by decide +kernel
theorem dX6_offer_7 : decode cX6_offer 7 = .ok (.aload_n 0, 1) := by decide +kernel
theorem dX6_offer_8 : decode cX6_offer 8 = .ok (.iload_n 2, 1) := by decide +kernel
theorem dX6_offer_9 : decode cX6_offer 9 = .ok (.invokevirtual 94, 3) := by decide +kernel
theorem dX6_offer_12 : decode cX6_offer 12 = .ok (.ifCond .ne 6, 3) := by decide +kernel
theorem dX6_offer_15 : decode cX6_offer 15 = .ok (.ldc 85, 2) := by decide +kernel
theorem dX6_offer_17 : decode cX6_offer 17 = .ok (.ireturn, 1) := by decide +kernel
theorem dX6_offer_18 : decode cX6_offer 18 = .ok (.aload_n 0, 1) := by decide +kernel
theorem dX6_offer_19 : decode cX6_offer 19 = .ok (.getfield 28, 3) := by decide +kernel
theorem dX6_offer_22 : decode cX6_offer 22 = .ok (.iload_n 1, 1) := by decide +kernel
theorem dX6_offer_23 : decode cX6_offer 23 = .ok (.iload_n 2, 1) := by decide +kernel
theorem dX6_offer_24 : decode cX6_offer 24 = .ok (.aload_n 0, 1) := by decide +kernel
theorem dX6_offer_25 : decode cX6_offer 25 = .ok (.getfield 28, 3) := by decide +kernel
theorem dX6_offer_28 : decode cX6_offer 28 = .ok (.iload_n 2, 1) := by decide +kernel
theorem dX6_offer_29 : decode cX6_offer 29 = .ok (.invokevirtual 115, 3) := by decide +kernel
theorem dX6_offer_32 : decode cX6_offer 32 = .ok (.invokevirtual 141, 3) := by decide +kernel
theorem dX6_offer_35 : decode cX6_offer 35 = .ok (.ireturn, 1) := by decide +kernel
theorem dX6_deal_0 : decode cX6_deal 0 = .ok (.iload_n 1, 1) := by decide +kernel
theorem dX6_deal_1 : decode cX6_deal 1 = .ok (.iconst 1, 1) := by decide +kernel
theorem dX6_deal_2 : decode cX6_deal 2 = .ok (.bipush 10, 2) := by decide +kernel
theorem dX6_deal_4 : decode cX6_deal 4 = .ok (.invokestatic 78, 3) := by decide +kernel
theorem dX6_deal_7 : decode cX6_deal 7 = .ok (.ifCond .ne 6, 3) := by decide +kernel
theorem dX6_deal_10 : decode cX6_deal 10 = .ok (.ldc 85, 2) := by decide +kernel
theorem dX6_deal_12 : decode cX6_deal 12 = .ok (.ireturn, 1) := by decide +kernel
theorem dX6_deal_13 : decode cX6_deal 13 = .ok (.iload_n 1, 1) := by decide +kernel
theorem dX6_deal_14 : decode cX6_deal 14 = .ok (.bipush 10, 2) := by decide +kernel
theorem dX6_deal_16 : decode cX6_deal 16 = .ok (.aload_n 0, 1) := by decide +kernel
theorem dX6_deal_17 : decode cX6_deal 17 = .ok (.getfield 28, 3) := by decide +kernel
theorem dX6_deal_20 : decode cX6_deal 20 = .ok (.getfield 86, 3) := by decide +kernel
theorem dX6_deal_23 : decode cX6_deal 23 = .ok (.isub, 1) := by decide +kernel
theorem dX6_deal_24 : decode cX6_deal 24 = .ok (.invokestatic 145, 3) := by decide +kernel
theorem dX6_deal_27 : decode cX6_deal 27 = .ok (.istore_n 2, 1) := by decide +kernel
theorem dX6_deal_28 : decode cX6_deal 28 = .ok (.iconst 0, 1) := by decide +kernel
theorem dX6_deal_29 : decode cX6_deal 29 = .ok (.istore_n 3, 1) := by decide +kernel
theorem dX6_deal_30 : decode cX6_deal 30 = .ok (.iload_n 3, 1) := by decide +kernel
theorem dX6_deal_31 : decode cX6_deal 31 = .ok (.iload_n 2, 1) := by decide +kernel
theorem dX6_deal_32 : decode cX6_deal 32 = .ok (.if_icmp .ge 16, 3) := by decide +kernel
theorem dX6_deal_35 : decode cX6_deal 35 = .ok (.aload_n 0, 1) := by decide +kernel
theorem dX6_deal_36 : decode cX6_deal 36 = .ok (.getfield 28, 3) := by decide +kernel
theorem dX6_deal_39 : decode cX6_deal 39 = .ok (.invokevirtual 150, 3) := by decide +kernel
theorem dX6_deal_42 : decode cX6_deal 42 = .ok (.iinc 3 1, 3) := by decide +kernel
theorem dX6_deal_45 : decode cX6_deal 45 = .ok (.goto (-15), 3) := by decide +kernel
theorem dX6_deal_48 : decode cX6_deal 48 = .ok (.iload_n 2, 1) := by decide +kernel
theorem dX6_deal_49 : decode cX6_deal 49 = .ok (.ireturn, 1) := by decide +kernel
theorem dX6_seed_0 : decode cX6_seed 0 = .ok (.aload_n 0, 1) := by decide +kernel
theorem dX6_seed_1 : decode cX6_seed 1 = .ok (.getfield 28, 3) := by decide +kernel
theorem dX6_seed_4 : decode cX6_seed 4 = .ok (.getfield 153, 3) := by decide +kernel
theorem dX6_seed_7 : decode cX6_seed 7 = .ok (.istore_n 2, 1) := by decide +kernel
theorem dX6_seed_8 : decode cX6_seed 8 = .ok (.aload_n 0, 1) := by decide +kernel
theorem dX6_seed_9 : decode cX6_seed 9 = .ok (.getfield 28, 3) := by decide +kernel
theorem dX6_seed_12 : decode cX6_seed 12 = .ok (.iload_n 1, 1) := by decide +kernel
theorem dX6_seed_13 : decode cX6_seed 13 = .ok (.putfield 153, 3) := by decide +kernel
theorem dX6_seed_16 : decode cX6_seed 16 = .ok (.iload_n 2, 1) := by decide +kernel
theorem dX6_seed_17 : decode cX6_seed 17 = .ok (.ireturn, 1) := by decide +kernel
theorem dX6_sale_0 : decode cX6_sale 0 = .ok (.aload_n 0, 1) := by decide +kernel
theorem dX6_sale_1 : decode cX6_sale 1 = .ok (.iload_n 1, 1) := by decide +kernel
theorem dX6_sale_2 : decode cX6_sale 2 = .ok (.invokevirtual 94, 3) := by decide +kernel
theorem dX6_sale_5 : decode cX6_sale 5 = .ok (.ifCond .eq 21, 3) := by decide +kernel
theorem dX6_sale_8 : decode cX6_sale 8 = .ok (.iload_n 2, 1) := by decide +kernel
theorem dX6_sale_9 : decode cX6_sale 9 = .ok (.invokestatic 82, 3) := by decide +kernel
theorem dX6_sale_12 : decode cX6_sale 12 = .ok (.ifCond .eq 14, 3) := by decide +kernel
theorem dX6_sale_15 : decode cX6_sale 15 = .ok (.iload_n 3, 1) := by decide +kernel
theorem dX6_sale_16 : decode cX6_sale 16 = .ok (.iconst 0, 1) := by decide +kernel
theorem dX6_sale_17 : decode cX6_sale 17 = .ok (.sipush 9999, 3) := by decide +kernel
theorem dX6_sale_20 : decode cX6_sale 20 = .ok (.invokestatic 78, 3) := by decide +kernel
theorem dX6_sale_23 : decode cX6_sale 23 = .ok (.ifCond .ne 6, 3) := by decide +kernel
theorem dX6_sale_26 : decode cX6_sale 26 = .ok (.ldc 85, 2) := by decide +kernel
theorem dX6_sale_28 : decode cX6_sale 28 = .ok (.ireturn, 1) := by decide +kernel
theorem dX6_sale_29 : decode cX6_sale 29 = .ok (.aload_n 0, 1) := by decide +kernel
theorem dX6_sale_30 : decode cX6_sale 30 = .ok (.getfield 28, 3) := by decide +kernel
theorem dX6_sale_33 : decode cX6_sale 33 = .ok (.getfield 109, 3) := by decide +kernel
theorem dX6_sale_36 : decode cX6_sale 36 = .ok (.iload_n 1, 1) := by decide +kernel
theorem dX6_sale_37 : decode cX6_sale 37 = .ok (.iaload, 1) := by decide +kernel
theorem dX6_sale_38 : decode cX6_sale 38 = .ok (.iload_n 2, 1) := by decide +kernel
theorem dX6_sale_39 : decode cX6_sale 39 = .ok (.if_icmp .eq 16, 3) := by decide +kernel
theorem dX6_sale_42 : decode cX6_sale 42 = .ok (.aload_n 0, 1) := by decide +kernel
theorem dX6_sale_43 : decode cX6_sale 43 = .ok (.getfield 28, 3) := by decide +kernel
theorem dX6_sale_46 : decode cX6_sale 46 = .ok (.getfield 132, 3) := by decide +kernel
theorem dX6_sale_49 : decode cX6_sale 49 = .ok (.iload_n 2, 1) := by decide +kernel
theorem dX6_sale_50 : decode cX6_sale 50 = .ok (.iaload, 1) := by decide +kernel
theorem dX6_sale_51 : decode cX6_sale 51 = .ok (.iload_n 3, 1) := by decide +kernel
theorem dX6_sale_52 : decode cX6_sale 52 = .ok (.if_icmp .ge 6, 3) := by decide +kernel
theorem dX6_sale_55 : decode cX6_sale 55 = .ok (.ldc 156, 2) := by decide +kernel
theorem dX6_sale_57 : decode cX6_sale 57 = .ok (.ireturn, 1) := by decide +kernel
theorem dX6_sale_58 : decode cX6_sale 58 = .ok (.aload_n 0, 1) := by decide +kernel
theorem dX6_sale_59 : decode cX6_sale 59 = .ok (.getfield 28, 3) := by decide +kernel
theorem dX6_sale_62 : decode cX6_sale 62 = .ok (.iload_n 1, 1) := by decide +kernel
theorem dX6_sale_63 : decode cX6_sale 63 = .ok (.iload_n 2, 1) := by decide +kernel
theorem dX6_sale_64 : decode cX6_sale 64 = .ok (.iload_n 3, 1) := by decide +kernel
theorem dX6_sale_65 : decode cX6_sale 65 = .ok (.invokevirtual 157, 3) := by decide +kernel
theorem dX6_sale_68 : decode cX6_sale 68 = .ok (.aload_n 0, 1) := by decide +kernel
theorem dX6_sale_69 : decode cX6_sale 69 = .ok (.getfield 28, 3) := by decide +kernel
theorem dX6_sale_72 : decode cX6_sale 72 = .ok (.getfield 161, 3) := by decide +kernel
theorem dX6_sale_75 : decode cX6_sale 75 = .ok (.ireturn, 1) := by decide +kernel
theorem dX6_markets_0 : decode cX6_markets 0 = .ok (.iload_n 1, 1) := by decide +kernel
theorem dX6_markets_1 : decode cX6_markets 1 = .ok (.iconst 1, 1) := by decide +kernel
theorem dX6_markets_2 : decode cX6_markets 2 = .ok (.bipush 100, 2) := by decide +kernel
theorem dX6_markets_4 : decode cX6_markets 4 = .ok (.invokestatic 78, 3) := by decide +kernel
theorem dX6_markets_7 : decode cX6_markets 7 = .ok (.ifCond .ne 6, 3) := by decide +kernel
theorem dX6_markets_10 : decode cX6_markets 10 = .ok (.ldc 85, 2) := by decide +kernel
theorem dX6_markets_12 : decode cX6_markets 12 = .ok (.ireturn, 1) := by decide +kernel
theorem dX6_markets_13 : decode cX6_markets 13 = .ok (.aload_n 0, 1) := by decide +kernel
theorem dX6_markets_14 : decode cX6_markets 14 = .ok (.getfield 28, 3) := by decide +kernel
theorem dX6_markets_17 : decode cX6_markets 17 = .ok (.getfield 161, 3) := by decide +kernel
theorem dX6_markets_20 : decode cX6_markets 20 = .ok (.istore_n 2, 1) := by decide +kernel
theorem dX6_markets_21 : decode cX6_markets 21 = .ok (.aload_n 0, 1) := by decide +kernel
theorem dX6_markets_22 : decode cX6_markets 22 = .ok (.getfield 28, 3) := by decide +kernel
theorem dX6_markets_25 : decode cX6_markets 25 = .ok (.aload_n 0, 1) := by decide +kernel
theorem dX6_markets_26 : decode cX6_markets 26 = .ok (.getfield 28, 3) := by decide +kernel
theorem dX6_markets_29 : decode cX6_markets 29 = .ok (.iload_n 1, 1) := by decide +kernel
theorem dX6_markets_30 : decode cX6_markets 30 = .ok (.invokevirtual 164, 3) := by decide +kernel
theorem dX6_markets_33 : decode cX6_markets 33 = .ok (.invokevirtual 167, 3) := by decide +kernel
theorem dX6_markets_36 : decode cX6_markets 36 = .ok (.aload_n 0, 1) := by decide +kernel
theorem dX6_markets_37 : decode cX6_markets 37 = .ok (.getfield 28, 3) := by decide +kernel
theorem dX6_markets_40 : decode cX6_markets 40 = .ok (.getfield 161, 3) := by decide +kernel
theorem dX6_markets_43 : decode cX6_markets 43 = .ok (.iload_n 2, 1) := by decide +kernel
theorem dX6_markets_44 : decode cX6_markets 44 = .ok (.isub, 1) := by decide +kernel
theorem dX6_markets_45 : decode cX6_markets 45 = .ok (.ireturn, 1) := by decide +kernel
theorem dX6_ledger_0 : decode cX6_ledger 0 = .ok (.iload_n 1, 1) := by decide +kernel
theorem dX6_ledger_1 : decode cX6_ledger 1 = .ok (.tableswitch 51 0 2 #[27, 35, 43], 27) := by decide +kernel
theorem dX6_ledger_28 : decode cX6_ledger 28 = .ok (.aload_n 0, 1) := by decide +kernel
theorem dX6_ledger_29 : decode cX6_ledger 29 = .ok (.getfield 28, 3) := by decide +kernel
theorem dX6_ledger_32 : decode cX6_ledger 32 = .ok (.getfield 161, 3) := by decide +kernel
theorem dX6_ledger_35 : decode cX6_ledger 35 = .ok (.ireturn, 1) := by decide +kernel
theorem dX6_ledger_36 : decode cX6_ledger 36 = .ok (.aload_n 0, 1) := by decide +kernel
theorem dX6_ledger_37 : decode cX6_ledger 37 = .ok (.getfield 28, 3) := by decide +kernel
theorem dX6_ledger_40 : decode cX6_ledger 40 = .ok (.getfield 171, 3) := by decide +kernel
theorem dX6_ledger_43 : decode cX6_ledger 43 = .ok (.ireturn, 1) := by decide +kernel
theorem dX6_ledger_44 : decode cX6_ledger 44 = .ok (.aload_n 0, 1) := by decide +kernel
theorem dX6_ledger_45 : decode cX6_ledger 45 = .ok (.getfield 28, 3) := by decide +kernel
theorem dX6_ledger_48 : decode cX6_ledger 48 = .ok (.invokevirtual 174, 3) := by decide +kernel
theorem dX6_ledger_51 : decode cX6_ledger 51 = .ok (.ireturn, 1) := by decide +kernel
theorem dX6_ledger_52 : decode cX6_ledger 52 = .ok (.ldc 85, 2) := by decide +kernel
theorem dX6_ledger_54 : decode cX6_ledger 54 = .ok (.ireturn, 1) := by decide +kernel
theorem dX6_isTrue_0 : decode cX6_isTrue 0 = .ok (.iload_n 1, 1) := by decide +kernel
theorem dX6_isTrue_1 : decode cX6_isTrue 1 = .ok (.iconst 0, 1) := by decide +kernel
theorem dX6_isTrue_2 : decode cX6_isTrue 2 = .ok (.bipush 99, 2) := by decide +kernel
theorem dX6_isTrue_4 : decode cX6_isTrue 4 = .ok (.invokestatic 78, 3) := by decide +kernel
theorem dX6_isTrue_7 : decode cX6_isTrue 7 = .ok (.ifCond .ne 6, 3) := by decide +kernel
theorem dX6_isTrue_10 : decode cX6_isTrue 10 = .ok (.ldc 85, 2) := by decide +kernel
theorem dX6_isTrue_12 : decode cX6_isTrue 12 = .ok (.ireturn, 1) := by decide +kernel
theorem dX6_isTrue_13 : decode cX6_isTrue 13 = .ok (.aload_n 0, 1) := by decide +kernel
theorem dX6_isTrue_14 : decode cX6_isTrue 14 = .ok (.getfield 28, 3) := by decide +kernel
theorem dX6_isTrue_17 : decode cX6_isTrue 17 = .ok (.iload_n 1, 1) := by decide +kernel
theorem dX6_isTrue_18 : decode cX6_isTrue 18 = .ok (.invokevirtual 178, 3) := by decide +kernel
theorem dX6_isTrue_21 : decode cX6_isTrue 21 = .ok (.istore_n 2, 1) := by decide +kernel
theorem dX6_isTrue_22 : decode cX6_isTrue 22 = .ok (.aload_n 0, 1) := by decide +kernel
theorem dX6_isTrue_23 : decode cX6_isTrue 23 = .ok (.getfield 28, 3) := by decide +kernel
theorem dX6_isTrue_26 : decode cX6_isTrue 26 = .ok (.iload_n 1, 1) := by decide +kernel
theorem dX6_isTrue_27 : decode cX6_isTrue 27 = .ok (.iload_n 2, 1) := by decide +kernel
theorem dX6_isTrue_28 : decode cX6_isTrue 28 = .ok (.invokevirtual 181, 3) := by decide +kernel
theorem dX6_isTrue_31 : decode cX6_isTrue 31 = .ok (.ifCond .ne 8, 3) := by decide +kernel
theorem dX6_isTrue_34 : decode cX6_isTrue 34 = .ok (.ldc 184, 2) := by decide +kernel
theorem dX6_isTrue_36 : decode cX6_isTrue 36 = .ok (.goto 4, 3) := by decide +kernel
theorem dX6_isTrue_39 : decode cX6_isTrue 39 = .ok (.iload_n 2, 1) := by decide +kernel
theorem dX6_isTrue_40 : decode cX6_isTrue 40 = .ok (.ireturn, 1) := by decide +kernel
theorem dX6_falseMany_0 : decode cX6_falseMany 0 = .ok (.aload_n 0, 1) := by decide +kernel
theorem dX6_falseMany_1 : decode cX6_falseMany 1 = .ok (.getfield 28, 3) := by decide +kernel
theorem dX6_falseMany_4 : decode cX6_falseMany 4 = .ok (.invokevirtual 185, 3) := by decide +kernel
theorem dX6_falseMany_7 : decode cX6_falseMany 7 = .ok (.ireturn, 1) := by decide +kernel
theorem dX6_fill_0 : decode cX6_fill 0 = .ok (.iload_n 1, 1) := by decide +kernel
theorem dX6_fill_1 : decode cX6_fill 1 = .ok (.invokestatic 82, 3) := by decide +kernel
theorem dX6_fill_4 : decode cX6_fill 4 = .ok (.ifCond .eq 12, 3) := by decide +kernel
theorem dX6_fill_7 : decode cX6_fill 7 = .ok (.iload_n 2, 1) := by decide +kernel
theorem dX6_fill_8 : decode cX6_fill 8 = .ok (.iconst 0, 1) := by decide +kernel
theorem dX6_fill_9 : decode cX6_fill 9 = .ok (.iconst 2, 1) := by decide +kernel
theorem dX6_fill_10 : decode cX6_fill 10 = .ok (.invokestatic 78, 3) := by decide +kernel
theorem dX6_fill_13 : decode cX6_fill 13 = .ok (.ifCond .ne 6, 3) := by decide +kernel
theorem dX6_fill_16 : decode cX6_fill 16 = .ok (.ldc 85, 2) := by decide +kernel
theorem dX6_fill_18 : decode cX6_fill 18 = .ok (.ireturn, 1) := by decide +kernel
theorem dX6_fill_19 : decode cX6_fill 19 = .ok (.aload_n 0, 1) := by decide +kernel
theorem dX6_fill_20 : decode cX6_fill 20 = .ok (.getfield 41, 3) := by decide +kernel
theorem dX6_fill_23 : decode cX6_fill 23 = .ok (.aload_n 0, 1) := by decide +kernel
theorem dX6_fill_24 : decode cX6_fill 24 = .ok (.getfield 28, 3) := by decide +kernel
theorem dX6_fill_27 : decode cX6_fill 27 = .ok (.iload_n 1, 1) := by decide +kernel
theorem dX6_fill_28 : decode cX6_fill 28 = .ok (.invokevirtual 188, 3) := by decide +kernel
theorem dX6_fill_31 : decode cX6_fill 31 = .ok (.aload_n 0, 1) := by decide +kernel
theorem dX6_fill_32 : decode cX6_fill 32 = .ok (.getfield 41, 3) := by decide +kernel
theorem dX6_fill_35 : decode cX6_fill 35 = .ok (.aload_n 0, 1) := by decide +kernel
theorem dX6_fill_36 : decode cX6_fill 36 = .ok (.getfield 28, 3) := by decide +kernel
theorem dX6_fill_39 : decode cX6_fill 39 = .ok (.getfield 86, 3) := by decide +kernel
theorem dX6_fill_42 : decode cX6_fill 42 = .ok (.aload_n 0, 1) := by decide +kernel
theorem dX6_fill_43 : decode cX6_fill 43 = .ok (.getfield 28, 3) := by decide +kernel
theorem dX6_fill_46 : decode cX6_fill 46 = .ok (.getfield 132, 3) := by decide +kernel
theorem dX6_fill_49 : decode cX6_fill 49 = .ok (.iload_n 1, 1) := by decide +kernel
theorem dX6_fill_50 : decode cX6_fill 50 = .ok (.iaload, 1) := by decide +kernel
theorem dX6_fill_51 : decode cX6_fill 51 = .ok (.invokevirtual 192, 3) := by decide +kernel
theorem dX6_fill_54 : decode cX6_fill 54 = .ok (.istore_n 3, 1) := by decide +kernel
theorem dX6_fill_55 : decode cX6_fill 55 = .ok (.iload_n 2, 1) := by decide +kernel
theorem dX6_fill_56 : decode cX6_fill 56 = .ok (.lookupswitch 52 #[(1, 28), (2, 40)], 28) := by decide +kernel
theorem dX6_fill_84 : decode cX6_fill 84 = .ok (.aload_n 0, 1) := by decide +kernel
theorem dX6_fill_85 : decode cX6_fill 85 = .ok (.getfield 41, 3) := by decide +kernel
theorem dX6_fill_88 : decode cX6_fill 88 = .ok (.getfield 195, 3) := by decide +kernel
theorem dX6_fill_91 : decode cX6_fill 91 = .ok (.iload_n 3, 1) := by decide +kernel
theorem dX6_fill_92 : decode cX6_fill 92 = .ok (.invokestatic 198, 3) := by decide +kernel
theorem dX6_fill_95 : decode cX6_fill 95 = .ok (.ireturn, 1) := by decide +kernel
theorem dX6_fill_96 : decode cX6_fill 96 = .ok (.aload_n 0, 1) := by decide +kernel
theorem dX6_fill_97 : decode cX6_fill 97 = .ok (.getfield 41, 3) := by decide +kernel
theorem dX6_fill_100 : decode cX6_fill 100 = .ok (.getfield 202, 3) := by decide +kernel
theorem dX6_fill_103 : decode cX6_fill 103 = .ok (.iload_n 3, 1) := by decide +kernel
theorem dX6_fill_104 : decode cX6_fill 104 = .ok (.invokestatic 198, 3) := by decide +kernel
theorem dX6_fill_107 : decode cX6_fill 107 = .ok (.ireturn, 1) := by decide +kernel
theorem dX6_fill_108 : decode cX6_fill 108 = .ok (.iload_n 3, 1) := by decide +kernel
theorem dX6_fill_109 : decode cX6_fill 109 = .ok (.ireturn, 1) := by decide +kernel
theorem dX6_emptied_0 : decode cX6_emptied 0 = .ok (.iload_n 1, 1) := by decide +kernel
theorem dX6_emptied_1 : decode cX6_emptied 1 = .ok (.invokestatic 82, 3) := by decide +kernel
theorem dX6_emptied_4 : decode cX6_emptied 4 = .ok (.ifCond .ne 6, 3) := by decide +kernel
theorem dX6_emptied_7 : decode cX6_emptied 7 = .ok (.ldc 85, 2) := by decide +kernel
theorem dX6_emptied_9 : decode cX6_emptied 9 = .ok (.ireturn, 1) := by decide +kernel
theorem dX6_emptied_10 : decode cX6_emptied 10 = .ok (.aload_n 0, 1) := by decide +kernel
theorem dX6_emptied_11 : decode cX6_emptied 11 = .ok (.getfield 35, 3) := by decide +kernel
theorem dX6_emptied_14 : decode cX6_emptied 14 = .ok (.aload_n 0, 1) := by decide +kernel
theorem dX6_emptied_15 : decode cX6_emptied 15 = .ok (.getfield 28, 3) := by decide +kernel
theorem dX6_emptied_18 : decode cX6_emptied 18 = .ok (.invokevirtual 205, 3) := by decide +kernel
theorem dX6_emptied_21 : decode cX6_emptied 21 = .ok (.iconst 0, 1) := by decide +kernel
theorem dX6_emptied_22 : decode cX6_emptied 22 = .ok (.istore_n 2, 1) := by decide +kernel
theorem dX6_emptied_23 : decode cX6_emptied 23 = .ok (.iload_n 2, 1) := by decide +kernel
theorem dX6_emptied_24 : decode cX6_emptied 24 = .ok (.aload_n 0, 1) := by decide +kernel
theorem dX6_emptied_25 : decode cX6_emptied 25 = .ok (.getfield 28, 3) := by decide +kernel
theorem dX6_emptied_28 : decode cX6_emptied 28 = .ok (.getfield 86, 3) := by decide +kernel
theorem dX6_emptied_31 : decode cX6_emptied 31 = .ok (.if_icmp .ge 63, 3) := by decide +kernel
theorem dX6_emptied_34 : decode cX6_emptied 34 = .ok (.aload_n 0, 1) := by decide +kernel
theorem dX6_emptied_35 : decode cX6_emptied 35 = .ok (.getfield 28, 3) := by decide +kernel
theorem dX6_emptied_38 : decode cX6_emptied 38 = .ok (.getfield 109, 3) := by decide +kernel
theorem dX6_emptied_41 : decode cX6_emptied 41 = .ok (.iload_n 2, 1) := by decide +kernel
theorem dX6_emptied_42 : decode cX6_emptied 42 = .ok (.iaload, 1) := by decide +kernel
theorem dX6_emptied_43 : decode cX6_emptied 43 = .ok (.iload_n 1, 1) := by decide +kernel
theorem dX6_emptied_44 : decode cX6_emptied 44 = .ok (.if_icmp .ne 44, 3) := by decide +kernel
theorem dX6_emptied_47 : decode cX6_emptied 47 = .ok (.aload_n 0, 1) := by decide +kernel
theorem dX6_emptied_48 : decode cX6_emptied 48 = .ok (.getfield 35, 3) := by decide +kernel
theorem dX6_emptied_51 : decode cX6_emptied 51 = .ok (.iload_n 2, 1) := by decide +kernel
theorem dX6_emptied_52 : decode cX6_emptied 52 = .ok (.invokevirtual 115, 3) := by decide +kernel
theorem dX6_emptied_55 : decode cX6_emptied 55 = .ok (.istore_n 3, 1) := by decide +kernel
theorem dX6_emptied_56 : decode cX6_emptied 56 = .ok (.aload_n 0, 1) := by decide +kernel
theorem dX6_emptied_57 : decode cX6_emptied 57 = .ok (.getfield 35, 3) := by decide +kernel
theorem dX6_emptied_60 : decode cX6_emptied 60 = .ok (.iload_n 2, 1) := by decide +kernel
theorem dX6_emptied_61 : decode cX6_emptied 61 = .ok (.iload_n 3, 1) := by decide +kernel
theorem dX6_emptied_62 : decode cX6_emptied 62 = .ok (.invokevirtual 209, 3) := by decide +kernel
theorem dX6_emptied_65 : decode cX6_emptied 65 = .ok (.istore 4, 2) := by decide +kernel
theorem dX6_emptied_67 : decode cX6_emptied 67 = .ok (.aload_n 0, 1) := by decide +kernel
theorem dX6_emptied_68 : decode cX6_emptied 68 = .ok (.getfield 35, 3) := by decide +kernel
theorem dX6_emptied_71 : decode cX6_emptied 71 = .ok (.iload_n 2, 1) := by decide +kernel
theorem dX6_emptied_72 : decode cX6_emptied 72 = .ok (.iload 4, 2) := by decide +kernel
theorem dX6_emptied_74 : decode cX6_emptied 74 = .ok (.aload_n 0, 1) := by decide +kernel
theorem dX6_emptied_75 : decode cX6_emptied 75 = .ok (.getfield 35, 3) := by decide +kernel
theorem dX6_emptied_78 : decode cX6_emptied 78 = .ok (.iload 4, 2) := by decide +kernel
theorem dX6_emptied_80 : decode cX6_emptied 80 = .ok (.iload_n 2, 1) := by decide +kernel
theorem dX6_emptied_81 : decode cX6_emptied 81 = .ok (.iload_n 3, 1) := by decide +kernel
theorem dX6_emptied_82 : decode cX6_emptied 82 = .ok (.invokevirtual 141, 3) := by decide +kernel
theorem dX6_emptied_85 : decode cX6_emptied 85 = .ok (.invokevirtual 157, 3) := by decide +kernel
theorem dX6_emptied_88 : decode cX6_emptied 88 = .ok (.iinc 2 1, 3) := by decide +kernel
theorem dX6_emptied_91 : decode cX6_emptied 91 = .ok (.goto (-68), 3) := by decide +kernel
theorem dX6_emptied_94 : decode cX6_emptied 94 = .ok (.aload_n 0, 1) := by decide +kernel
theorem dX6_emptied_95 : decode cX6_emptied 95 = .ok (.getfield 35, 3) := by decide +kernel
theorem dX6_emptied_98 : decode cX6_emptied 98 = .ok (.getfield 132, 3) := by decide +kernel
theorem dX6_emptied_101 : decode cX6_emptied 101 = .ok (.iload_n 1, 1) := by decide +kernel
theorem dX6_emptied_102 : decode cX6_emptied 102 = .ok (.iaload, 1) := by decide +kernel
theorem dX6_emptied_103 : decode cX6_emptied 103 = .ok (.aload_n 0, 1) := by decide +kernel
theorem dX6_emptied_104 : decode cX6_emptied 104 = .ok (.getfield 28, 3) := by decide +kernel
theorem dX6_emptied_107 : decode cX6_emptied 107 = .ok (.getfield 132, 3) := by decide +kernel
theorem dX6_emptied_110 : decode cX6_emptied 110 = .ok (.iload_n 1, 1) := by decide +kernel
theorem dX6_emptied_111 : decode cX6_emptied 111 = .ok (.iaload, 1) := by decide +kernel
theorem dX6_emptied_112 : decode cX6_emptied 112 = .ok (.isub, 1) := by decide +kernel
theorem dX6_emptied_113 : decode cX6_emptied 113 = .ok (.ireturn, 1) := by decide +kernel
theorem dX6_behind_0 : decode cX6_behind 0 = .ok (.aload_n 0, 1) := by decide +kernel
theorem dX6_behind_1 : decode cX6_behind 1 = .ok (.iload_n 1, 1) := by decide +kernel
theorem dX6_behind_2 : decode cX6_behind 2 = .ok (.invokevirtual 94, 3) := by decide +kernel
theorem dX6_behind_5 : decode cX6_behind 5 = .ok (.ifCond .eq 22, 3) := by decide +kernel
theorem dX6_behind_8 : decode cX6_behind 8 = .ok (.iload_n 2, 1) := by decide +kernel
theorem dX6_behind_9 : decode cX6_behind 9 = .ok (.iconst 0, 1) := by decide +kernel
theorem dX6_behind_10 : decode cX6_behind 10 = .ok (.bipush 100, 2) := by decide +kernel
theorem dX6_behind_12 : decode cX6_behind 12 = .ok (.invokestatic 78, 3) := by decide +kernel
theorem dX6_behind_15 : decode cX6_behind 15 = .ok (.ifCond .eq 12, 3) := by decide +kernel
theorem dX6_behind_18 : decode cX6_behind 18 = .ok (.iload_n 3, 1) := by decide +kernel
theorem dX6_behind_19 : decode cX6_behind 19 = .ok (.iconst 0, 1) := by decide +kernel
theorem dX6_behind_20 : decode cX6_behind 20 = .ok (.iconst 4, 1) := by decide +kernel
theorem dX6_behind_21 : decode cX6_behind 21 = .ok (.invokestatic 78, 3) := by decide +kernel
theorem dX6_behind_24 : decode cX6_behind 24 = .ok (.ifCond .ne 6, 3) := by decide +kernel
theorem dX6_behind_27 : decode cX6_behind 27 = .ok (.ldc 85, 2) := by decide +kernel
theorem dX6_behind_29 : decode cX6_behind 29 = .ok (.ireturn, 1) := by decide +kernel
theorem dX6_behind_30 : decode cX6_behind 30 = .ok (.aload_n 0, 1) := by decide +kernel
theorem dX6_behind_31 : decode cX6_behind 31 = .ok (.getfield 35, 3) := by decide +kernel
theorem dX6_behind_34 : decode cX6_behind 34 = .ok (.aload_n 0, 1) := by decide +kernel
theorem dX6_behind_35 : decode cX6_behind 35 = .ok (.getfield 28, 3) := by decide +kernel
theorem dX6_behind_38 : decode cX6_behind 38 = .ok (.invokevirtual 205, 3) := by decide +kernel
theorem dX6_behind_41 : decode cX6_behind 41 = .ok (.aload_n 0, 1) := by decide +kernel
theorem dX6_behind_42 : decode cX6_behind 42 = .ok (.getfield 35, 3) := by decide +kernel
theorem dX6_behind_45 : decode cX6_behind 45 = .ok (.iload_n 2, 1) := by decide +kernel
theorem dX6_behind_46 : decode cX6_behind 46 = .ok (.invokevirtual 167, 3) := by decide +kernel
theorem dX6_behind_49 : decode cX6_behind 49 = .ok (.iload_n 3, 1) := by decide +kernel
theorem dX6_behind_50 : decode cX6_behind 50 = .ok (.tableswitch 65 0 3 #[30, 40, 49, 57], 30) := by decide +kernel
theorem dX6_behind_80 : decode cX6_behind 80 = .ok (.aload_n 0, 1) := by decide +kernel
theorem dX6_behind_81 : decode cX6_behind 81 = .ok (.getfield 35, 3) := by decide +kernel
theorem dX6_behind_84 : decode cX6_behind 84 = .ok (.getfield 109, 3) := by decide +kernel
theorem dX6_behind_87 : decode cX6_behind 87 = .ok (.iload_n 1, 1) := by decide +kernel
theorem dX6_behind_88 : decode cX6_behind 88 = .ok (.iaload, 1) := by decide +kernel
theorem dX6_behind_89 : decode cX6_behind 89 = .ok (.ireturn, 1) := by decide +kernel
theorem dX6_behind_90 : decode cX6_behind 90 = .ok (.aload_n 0, 1) := by decide +kernel
theorem dX6_behind_91 : decode cX6_behind 91 = .ok (.getfield 35, 3) := by decide +kernel
theorem dX6_behind_94 : decode cX6_behind 94 = .ok (.iload_n 1, 1) := by decide +kernel
theorem dX6_behind_95 : decode cX6_behind 95 = .ok (.invokevirtual 115, 3) := by decide +kernel
theorem dX6_behind_98 : decode cX6_behind 98 = .ok (.ireturn, 1) := by decide +kernel
theorem dX6_behind_99 : decode cX6_behind 99 = .ok (.aload_n 0, 1) := by decide +kernel
theorem dX6_behind_100 : decode cX6_behind 100 = .ok (.getfield 35, 3) := by decide +kernel
theorem dX6_behind_103 : decode cX6_behind 103 = .ok (.invokevirtual 174, 3) := by decide +kernel
theorem dX6_behind_106 : decode cX6_behind 106 = .ok (.ireturn, 1) := by decide +kernel
theorem dX6_behind_107 : decode cX6_behind 107 = .ok (.aload_n 0, 1) := by decide +kernel
theorem dX6_behind_108 : decode cX6_behind 108 = .ok (.getfield 35, 3) := by decide +kernel
theorem dX6_behind_111 : decode cX6_behind 111 = .ok (.getfield 161, 3) := by decide +kernel
theorem dX6_behind_114 : decode cX6_behind 114 = .ok (.ireturn, 1) := by decide +kernel
theorem dX6_behind_115 : decode cX6_behind 115 = .ok (.aload_n 0, 1) := by decide +kernel
theorem dX6_behind_116 : decode cX6_behind 116 = .ok (.getfield 35, 3) := by decide +kernel
theorem dX6_behind_119 : decode cX6_behind 119 = .ok (.getfield 171, 3) := by decide +kernel
theorem dX6_behind_122 : decode cX6_behind 122 = .ok (.ireturn, 1) := by decide +kernel
theorem dX6_richest_0 : decode cX6_richest 0 = .ok (.iload_n 1, 1) := by decide +kernel
theorem dX6_richest_1 : decode cX6_richest 1 = .ok (.iconst 0, 1) := by decide +kernel
theorem dX6_richest_2 : decode cX6_richest 2 = .ok (.bipush 100, 2) := by decide +kernel
theorem dX6_richest_4 : decode cX6_richest 4 = .ok (.invokestatic 78, 3) := by decide +kernel
theorem dX6_richest_7 : decode cX6_richest 7 = .ok (.ifCond .eq 12, 3) := by decide +kernel
theorem dX6_richest_10 : decode cX6_richest 10 = .ok (.iload_n 2, 1) := by decide +kernel
theorem dX6_richest_11 : decode cX6_richest 11 = .ok (.iconst 0, 1) := by decide +kernel
theorem dX6_richest_12 : decode cX6_richest 12 = .ok (.iconst 1, 1) := by decide +kernel
theorem dX6_richest_13 : decode cX6_richest 13 = .ok (.invokestatic 78, 3) := by decide +kernel
theorem dX6_richest_16 : decode cX6_richest 16 = .ok (.ifCond .ne 6, 3) := by decide +kernel
theorem dX6_richest_19 : decode cX6_richest 19 = .ok (.ldc 85, 2) := by decide +kernel
theorem dX6_richest_21 : decode cX6_richest 21 = .ok (.ireturn, 1) := by decide +kernel
theorem dX6_richest_22 : decode cX6_richest 22 = .ok (.aload_n 0, 1) := by decide +kernel
theorem dX6_richest_23 : decode cX6_richest 23 = .ok (.getfield 35, 3) := by decide +kernel
theorem dX6_richest_26 : decode cX6_richest 26 = .ok (.aload_n 0, 1) := by decide +kernel
theorem dX6_richest_27 : decode cX6_richest 27 = .ok (.getfield 28, 3) := by decide +kernel
theorem dX6_richest_30 : decode cX6_richest 30 = .ok (.invokevirtual 205, 3) := by decide +kernel
theorem dX6_richest_33 : decode cX6_richest 33 = .ok (.aload_n 0, 1) := by decide +kernel
theorem dX6_richest_34 : decode cX6_richest 34 = .ok (.getfield 35, 3) := by decide +kernel
theorem dX6_richest_37 : decode cX6_richest 37 = .ok (.iload_n 1, 1) := by decide +kernel
theorem dX6_richest_38 : decode cX6_richest 38 = .ok (.invokevirtual 167, 3) := by decide +kernel
theorem dX6_richest_41 : decode cX6_richest 41 = .ok (.iconst 0, 1) := by decide +kernel
theorem dX6_richest_42 : decode cX6_richest 42 = .ok (.istore_n 3, 1) := by decide +kernel
theorem dX6_richest_43 : decode cX6_richest 43 = .ok (.iconst 1, 1) := by decide +kernel
theorem dX6_richest_44 : decode cX6_richest 44 = .ok (.istore 4, 2) := by decide +kernel
theorem dX6_richest_46 : decode cX6_richest 46 = .ok (.iload 4, 2) := by decide +kernel
theorem dX6_richest_48 : decode cX6_richest 48 = .ok (.bipush 6, 2) := by decide +kernel
theorem dX6_richest_50 : decode cX6_richest 50 = .ok (.if_icmp .ge 34, 3) := by decide +kernel
theorem dX6_richest_53 : decode cX6_richest 53 = .ok (.aload_n 0, 1) := by decide +kernel
theorem dX6_richest_54 : decode cX6_richest 54 = .ok (.getfield 35, 3) := by decide +kernel
theorem dX6_richest_57 : decode cX6_richest 57 = .ok (.getfield 132, 3) := by decide +kernel
theorem dX6_richest_60 : decode cX6_richest 60 = .ok (.iload 4, 2) := by decide +kernel
theorem dX6_richest_62 : decode cX6_richest 62 = .ok (.iaload, 1) := by decide +kernel
theorem dX6_richest_63 : decode cX6_richest 63 = .ok (.aload_n 0, 1) := by decide +kernel
theorem dX6_richest_64 : decode cX6_richest 64 = .ok (.getfield 35, 3) := by decide +kernel
theorem dX6_richest_67 : decode cX6_richest 67 = .ok (.getfield 132, 3) := by decide +kernel
theorem dX6_richest_70 : decode cX6_richest 70 = .ok (.iload_n 3, 1) := by decide +kernel
theorem dX6_richest_71 : decode cX6_richest 71 = .ok (.iaload, 1) := by decide +kernel
theorem dX6_richest_72 : decode cX6_richest 72 = .ok (.if_icmp .le 6, 3) := by decide +kernel
theorem dX6_richest_75 : decode cX6_richest 75 = .ok (.iload 4, 2) := by decide +kernel
theorem dX6_richest_77 : decode cX6_richest 77 = .ok (.istore_n 3, 1) := by decide +kernel
theorem dX6_richest_78 : decode cX6_richest 78 = .ok (.iinc 4 1, 3) := by decide +kernel
theorem dX6_richest_81 : decode cX6_richest 81 = .ok (.goto (-35), 3) := by decide +kernel
theorem dX6_richest_84 : decode cX6_richest 84 = .ok (.iload_n 2, 1) := by decide +kernel
theorem dX6_richest_85 : decode cX6_richest 85 = .ok (.ifCond .ne 7, 3) := by decide +kernel
theorem dX6_richest_88 : decode cX6_richest 88 = .ok (.iload_n 3, 1) := by decide +kernel
theorem dX6_richest_89 : decode cX6_richest 89 = .ok (.goto 12, 3) := by decide +kernel
theorem dX6_richest_92 : decode cX6_richest 92 = .ok (.aload_n 0, 1) := by decide +kernel
theorem dX6_richest_93 : decode cX6_richest 93 = .ok (.getfield 35, 3) := by decide +kernel
theorem dX6_richest_96 : decode cX6_richest 96 = .ok (.getfield 132, 3) := by decide +kernel
theorem dX6_richest_99 : decode cX6_richest 99 = .ok (.iload_n 3, 1) := by decide +kernel
theorem dX6_richest_100 : decode cX6_richest 100 = .ok (.iaload, 1) := by decide +kernel
theorem dX6_richest_101 : decode cX6_richest 101 = .ok (.ireturn, 1) := by decide +kernel
theorem dX6_worn_0 : decode cX6_worn 0 = .ok (.aload_n 0, 1) := by decide +kernel
theorem dX6_worn_1 : decode cX6_worn 1 = .ok (.getfield 35, 3) := by decide +kernel
theorem dX6_worn_4 : decode cX6_worn 4 = .ok (.aload_n 0, 1) := by decide +kernel
theorem dX6_worn_5 : decode cX6_worn 5 = .ok (.getfield 28, 3) := by decide +kernel
theorem dX6_worn_8 : decode cX6_worn 8 = .ok (.invokevirtual 205, 3) := by decide +kernel
theorem dX6_worn_11 : decode cX6_worn 11 = .ok (.iconst 0, 1) := by decide +kernel
theorem dX6_worn_12 : decode cX6_worn 12 = .ok (.istore_n 1, 1) := by decide +kernel
theorem dX6_worn_13 : decode cX6_worn 13 = .ok (.iload_n 1, 1) := by decide +kernel
theorem dX6_worn_14 : decode cX6_worn 14 = .ok (.sipush 200, 3) := by decide +kernel
theorem dX6_worn_17 : decode cX6_worn 17 = .ok (.if_icmp .gt 29, 3) := by decide +kernel
theorem dX6_worn_20 : decode cX6_worn 20 = .ok (.aload_n 0, 1) := by decide +kernel
theorem dX6_worn_21 : decode cX6_worn 21 = .ok (.getfield 35, 3) := by decide +kernel
theorem dX6_worn_24 : decode cX6_worn 24 = .ok (.invokevirtual 212, 3) := by decide +kernel
theorem dX6_worn_27 : decode cX6_worn 27 = .ok (.ifCond .ne 5, 3) := by decide +kernel
theorem dX6_worn_30 : decode cX6_worn 30 = .ok (.iload_n 1, 1) := by decide +kernel
theorem dX6_worn_31 : decode cX6_worn 31 = .ok (.ireturn, 1) := by decide +kernel
theorem dX6_worn_32 : decode cX6_worn 32 = .ok (.aload_n 0, 1) := by decide +kernel
theorem dX6_worn_33 : decode cX6_worn 33 = .ok (.getfield 35, 3) := by decide +kernel
theorem dX6_worn_36 : decode cX6_worn 36 = .ok (.iconst 1, 1) := by decide +kernel
theorem dX6_worn_37 : decode cX6_worn 37 = .ok (.invokevirtual 167, 3) := by decide +kernel
theorem dX6_worn_40 : decode cX6_worn 40 = .ok (.iinc 1 1, 3) := by decide +kernel
theorem dX6_worn_43 : decode cX6_worn 43 = .ok (.goto (-30), 3) := by decide +kernel
theorem dX6_worn_46 : decode cX6_worn 46 = .ok (.ldc 184, 2) := by decide +kernel
theorem dX6_worn_48 : decode cX6_worn 48 = .ok (.ireturn, 1) := by decide +kernel
theorem dX6_dye_0 : decode cX6_dye 0 = .ok (.aload_n 0, 1) := by decide +kernel
theorem dX6_dye_1 : decode cX6_dye 1 = .ok (.iload_n 1, 1) := by decide +kernel
theorem dX6_dye_2 : decode cX6_dye 2 = .ok (.invokevirtual 94, 3) := by decide +kernel
theorem dX6_dye_5 : decode cX6_dye 5 = .ok (.ifCond .eq 22, 3) := by decide +kernel
theorem dX6_dye_8 : decode cX6_dye 8 = .ok (.iload_n 2, 1) := by decide +kernel
theorem dX6_dye_9 : decode cX6_dye 9 = .ok (.iconst 1, 1) := by decide +kernel
theorem dX6_dye_10 : decode cX6_dye 10 = .ok (.bipush 60, 2) := by decide +kernel
theorem dX6_dye_12 : decode cX6_dye 12 = .ok (.invokestatic 78, 3) := by decide +kernel
theorem dX6_dye_15 : decode cX6_dye 15 = .ok (.ifCond .eq 12, 3) := by decide +kernel
theorem dX6_dye_18 : decode cX6_dye 18 = .ok (.iload_n 3, 1) := by decide +kernel
theorem dX6_dye_19 : decode cX6_dye 19 = .ok (.iconst 0, 1) := by decide +kernel
theorem dX6_dye_20 : decode cX6_dye 20 = .ok (.iconst 1, 1) := by decide +kernel
theorem dX6_dye_21 : decode cX6_dye 21 = .ok (.invokestatic 78, 3) := by decide +kernel
theorem dX6_dye_24 : decode cX6_dye 24 = .ok (.ifCond .ne 6, 3) := by decide +kernel
theorem dX6_dye_27 : decode cX6_dye 27 = .ok (.ldc 85, 2) := by decide +kernel
theorem dX6_dye_29 : decode cX6_dye 29 = .ok (.ireturn, 1) := by decide +kernel
theorem dX6_dye_30 : decode cX6_dye 30 = .ok (.aload_n 0, 1) := by decide +kernel
theorem dX6_dye_31 : decode cX6_dye 31 = .ok (.getfield 28, 3) := by decide +kernel
theorem dX6_dye_34 : decode cX6_dye 34 = .ok (.getfield 109, 3) := by decide +kernel
theorem dX6_dye_37 : decode cX6_dye 37 = .ok (.iload_n 1, 1) := by decide +kernel
theorem dX6_dye_38 : decode cX6_dye 38 = .ok (.iaload, 1) := by decide +kernel
theorem dX6_dye_39 : decode cX6_dye 39 = .ok (.istore 4, 2) := by decide +kernel
theorem dX6_dye_41 : decode cX6_dye 41 = .ok (.iconst (-1), 1) := by decide +kernel
theorem dX6_dye_42 : decode cX6_dye 42 = .ok (.istore 5, 2) := by decide +kernel
theorem dX6_dye_44 : decode cX6_dye 44 = .ok (.iconst (-1), 1) := by decide +kernel
theorem dX6_dye_45 : decode cX6_dye 45 = .ok (.istore 6, 2) := by decide +kernel
theorem dX6_dye_47 : decode cX6_dye 47 = .ok (.iconst 0, 1) := by decide +kernel
theorem dX6_dye_48 : decode cX6_dye 48 = .ok (.istore 7, 2) := by decide +kernel
theorem dX6_dye_50 : decode cX6_dye 50 = .ok (.iload 7, 2) := by decide +kernel
theorem dX6_dye_52 : decode cX6_dye 52 = .ok (.bipush 9, 2) := by decide +kernel
theorem dX6_dye_54 : decode cX6_dye 54 = .ok (.if_icmp .gt 70, 3) := by decide +kernel
theorem dX6_dye_57 : decode cX6_dye 57 = .ok (.aload_n 0, 1) := by decide +kernel
theorem dX6_dye_58 : decode cX6_dye 58 = .ok (.getfield 35, 3) := by decide +kernel
theorem dX6_dye_61 : decode cX6_dye 61 = .ok (.aload_n 0, 1) := by decide +kernel
theorem dX6_dye_62 : decode cX6_dye 62 = .ok (.getfield 28, 3) := by decide +kernel
theorem dX6_dye_65 : decode cX6_dye 65 = .ok (.invokevirtual 205, 3) := by decide +kernel
theorem dX6_dye_68 : decode cX6_dye 68 = .ok (.aload_n 0, 1) := by decide +kernel
theorem dX6_dye_69 : decode cX6_dye 69 = .ok (.getfield 35, 3) := by decide +kernel
theorem dX6_dye_72 : decode cX6_dye 72 = .ok (.getfield 103, 3) := by decide +kernel
theorem dX6_dye_75 : decode cX6_dye 75 = .ok (.iload_n 1, 1) := by decide +kernel
theorem dX6_dye_76 : decode cX6_dye 76 = .ok (.iload 7, 2) := by decide +kernel
theorem dX6_dye_78 : decode cX6_dye 78 = .ok (.iastore, 1) := by decide +kernel
theorem dX6_dye_79 : decode cX6_dye 79 = .ok (.aload_n 0, 1) := by decide +kernel
theorem dX6_dye_80 : decode cX6_dye 80 = .ok (.getfield 35, 3) := by decide +kernel
theorem dX6_dye_83 : decode cX6_dye 83 = .ok (.iload_n 2, 1) := by decide +kernel
theorem dX6_dye_84 : decode cX6_dye 84 = .ok (.invokevirtual 167, 3) := by decide +kernel
theorem dX6_dye_87 : decode cX6_dye 87 = .ok (.aload_n 0, 1) := by decide +kernel
theorem dX6_dye_88 : decode cX6_dye 88 = .ok (.getfield 35, 3) := by decide +kernel
theorem dX6_dye_91 : decode cX6_dye 91 = .ok (.getfield 132, 3) := by decide +kernel
theorem dX6_dye_94 : decode cX6_dye 94 = .ok (.iload 4, 2) := by decide +kernel
theorem dX6_dye_96 : decode cX6_dye 96 = .ok (.iaload, 1) := by decide +kernel
theorem dX6_dye_97 : decode cX6_dye 97 = .ok (.iload 6, 2) := by decide +kernel
theorem dX6_dye_99 : decode cX6_dye 99 = .ok (.if_icmp .le 19, 3) := by decide +kernel
theorem dX6_dye_102 : decode cX6_dye 102 = .ok (.iload 7, 2) := by decide +kernel
theorem dX6_dye_104 : decode cX6_dye 104 = .ok (.istore 5, 2) := by decide +kernel
theorem dX6_dye_106 : decode cX6_dye 106 = .ok (.aload_n 0, 1) := by decide +kernel
theorem dX6_dye_107 : decode cX6_dye 107 = .ok (.getfield 35, 3) := by decide +kernel
theorem dX6_dye_110 : decode cX6_dye 110 = .ok (.getfield 132, 3) := by decide +kernel
theorem dX6_dye_113 : decode cX6_dye 113 = .ok (.iload 4, 2) := by decide +kernel
theorem dX6_dye_115 : decode cX6_dye 115 = .ok (.iaload, 1) := by decide +kernel
theorem dX6_dye_116 : decode cX6_dye 116 = .ok (.istore 6, 2) := by decide +kernel
theorem dX6_dye_118 : decode cX6_dye 118 = .ok (.iinc 7 1, 3) := by decide +kernel
theorem dX6_dye_121 : decode cX6_dye 121 = .ok (.goto (-71), 3) := by decide +kernel
theorem dX6_dye_124 : decode cX6_dye 124 = .ok (.iload_n 3, 1) := by decide +kernel
theorem dX6_dye_125 : decode cX6_dye 125 = .ok (.ifCond .ne 8, 3) := by decide +kernel
theorem dX6_dye_128 : decode cX6_dye 128 = .ok (.iload 5, 2) := by decide +kernel
theorem dX6_dye_130 : decode cX6_dye 130 = .ok (.goto 5, 3) := by decide +kernel
theorem dX6_dye_133 : decode cX6_dye 133 = .ok (.iload 6, 2) := by decide +kernel
theorem dX6_dye_135 : decode cX6_dye 135 = .ok (.ireturn, 1) := by decide +kernel
theorem dX6_mends_0 : decode cX6_mends 0 = .ok (.iload_n 1, 1) := by decide +kernel
theorem dX6_mends_1 : decode cX6_mends 1 = .ok (.iconst 1, 1) := by decide +kernel
theorem dX6_mends_2 : decode cX6_mends 2 = .ok (.bipush 60, 2) := by decide +kernel
theorem dX6_mends_4 : decode cX6_mends 4 = .ok (.invokestatic 78, 3) := by decide +kernel
theorem dX6_mends_7 : decode cX6_mends 7 = .ok (.ifCond .eq 12, 3) := by decide +kernel
theorem dX6_mends_10 : decode cX6_mends 10 = .ok (.iload_n 2, 1) := by decide +kernel
theorem dX6_mends_11 : decode cX6_mends 11 = .ok (.iconst 0, 1) := by decide +kernel
theorem dX6_mends_12 : decode cX6_mends 12 = .ok (.iconst 1, 1) := by decide +kernel
theorem dX6_mends_13 : decode cX6_mends 13 = .ok (.invokestatic 78, 3) := by decide +kernel
theorem dX6_mends_16 : decode cX6_mends 16 = .ok (.ifCond .ne 6, 3) := by decide +kernel
theorem dX6_mends_19 : decode cX6_mends 19 = .ok (.ldc 85, 2) := by decide +kernel
theorem dX6_mends_21 : decode cX6_mends 21 = .ok (.ireturn, 1) := by decide +kernel
theorem dX6_mends_22 : decode cX6_mends 22 = .ok (.aload_n 0, 1) := by decide +kernel
theorem dX6_mends_23 : decode cX6_mends 23 = .ok (.getfield 28, 3) := by decide +kernel
theorem dX6_mends_26 : decode cX6_mends 26 = .ok (.getfield 86, 3) := by decide +kernel
theorem dX6_mends_29 : decode cX6_mends 29 = .ok (.ifCond .ne 6, 3) := by decide +kernel
theorem dX6_mends_32 : decode cX6_mends 32 = .ok (.ldc 184, 2) := by decide +kernel
theorem dX6_mends_34 : decode cX6_mends 34 = .ok (.ireturn, 1) := by decide +kernel
theorem dX6_mends_35 : decode cX6_mends 35 = .ok (.iconst (-1), 1) := by decide +kernel
theorem dX6_mends_36 : decode cX6_mends 36 = .ok (.istore_n 3, 1) := by decide +kernel
theorem dX6_mends_37 : decode cX6_mends 37 = .ok (.iconst (-1), 1) := by decide +kernel
theorem dX6_mends_38 : decode cX6_mends 38 = .ok (.istore 4, 2) := by decide +kernel
theorem dX6_mends_40 : decode cX6_mends 40 = .ok (.iconst 0, 1) := by decide +kernel
theorem dX6_mends_41 : decode cX6_mends 41 = .ok (.istore 5, 2) := by decide +kernel
theorem dX6_mends_43 : decode cX6_mends 43 = .ok (.iload 5, 2) := by decide +kernel
theorem dX6_mends_45 : decode cX6_mends 45 = .ok (.aload_n 0, 1) := by decide +kernel
theorem dX6_mends_46 : decode cX6_mends 46 = .ok (.getfield 28, 3) := by decide +kernel
theorem dX6_mends_49 : decode cX6_mends 49 = .ok (.getfield 86, 3) := by decide +kernel
theorem dX6_mends_52 : decode cX6_mends 52 = .ok (.if_icmp .ge 63, 3) := by decide +kernel
theorem dX6_mends_55 : decode cX6_mends 55 = .ok (.aload_n 0, 1) := by decide +kernel
theorem dX6_mends_56 : decode cX6_mends 56 = .ok (.getfield 35, 3) := by decide +kernel
theorem dX6_mends_59 : decode cX6_mends 59 = .ok (.aload_n 0, 1) := by decide +kernel
theorem dX6_mends_60 : decode cX6_mends 60 = .ok (.getfield 28, 3) := by decide +kernel
theorem dX6_mends_63 : decode cX6_mends 63 = .ok (.invokevirtual 205, 3) := by decide +kernel
theorem dX6_mends_66 : decode cX6_mends 66 = .ok (.aload_n 0, 1) := by decide +kernel
theorem dX6_mends_67 : decode cX6_mends 67 = .ok (.getfield 35, 3) := by decide +kernel
theorem dX6_mends_70 : decode cX6_mends 70 = .ok (.getfield 97, 3) := by decide +kernel
theorem dX6_mends_73 : decode cX6_mends 73 = .ok (.iload 5, 2) := by decide +kernel
theorem dX6_mends_75 : decode cX6_mends 75 = .ok (.iconst 1, 1) := by decide +kernel
theorem dX6_mends_76 : decode cX6_mends 76 = .ok (.iastore, 1) := by decide +kernel
theorem dX6_mends_77 : decode cX6_mends 77 = .ok (.aload_n 0, 1) := by decide +kernel
theorem dX6_mends_78 : decode cX6_mends 78 = .ok (.getfield 35, 3) := by decide +kernel
theorem dX6_mends_81 : decode cX6_mends 81 = .ok (.iload_n 1, 1) := by decide +kernel
theorem dX6_mends_82 : decode cX6_mends 82 = .ok (.invokevirtual 167, 3) := by decide +kernel
theorem dX6_mends_85 : decode cX6_mends 85 = .ok (.aload_n 0, 1) := by decide +kernel
theorem dX6_mends_86 : decode cX6_mends 86 = .ok (.getfield 35, 3) := by decide +kernel
theorem dX6_mends_89 : decode cX6_mends 89 = .ok (.getfield 161, 3) := by decide +kernel
theorem dX6_mends_92 : decode cX6_mends 92 = .ok (.iload 4, 2) := by decide +kernel
theorem dX6_mends_94 : decode cX6_mends 94 = .ok (.if_icmp .le 15, 3) := by decide +kernel
theorem dX6_mends_97 : decode cX6_mends 97 = .ok (.iload 5, 2) := by decide +kernel
theorem dX6_mends_99 : decode cX6_mends 99 = .ok (.istore_n 3, 1) := by decide +kernel
theorem dX6_mends_100 : decode cX6_mends 100 = .ok (.aload_n 0, 1) := by decide +kernel
theorem dX6_mends_101 : decode cX6_mends 101 = .ok (.getfield 35, 3) := by decide +kernel
theorem dX6_mends_104 : decode cX6_mends 104 = .ok (.getfield 161, 3) := by decide +kernel
theorem dX6_mends_107 : decode cX6_mends 107 = .ok (.istore 4, 2) := by decide +kernel
theorem dX6_mends_109 : decode cX6_mends 109 = .ok (.iinc 5 1, 3) := by decide +kernel
theorem dX6_mends_112 : decode cX6_mends 112 = .ok (.goto (-69), 3) := by decide +kernel
theorem dX6_mends_115 : decode cX6_mends 115 = .ok (.iload_n 2, 1) := by decide +kernel
theorem dX6_mends_116 : decode cX6_mends 116 = .ok (.ifCond .ne 7, 3) := by decide +kernel
theorem dX6_mends_119 : decode cX6_mends 119 = .ok (.iload_n 3, 1) := by decide +kernel
theorem dX6_mends_120 : decode cX6_mends 120 = .ok (.goto 5, 3) := by decide +kernel
theorem dX6_mends_123 : decode cX6_mends 123 = .ok (.iload 4, 2) := by decide +kernel
theorem dX6_mends_125 : decode cX6_mends 125 = .ok (.ireturn, 1) := by decide +kernel
theorem dX6_toldBy_0 : decode cX6_toldBy 0 = .ok (.iload_n 1, 1) := by decide +kernel
theorem dX6_toldBy_1 : decode cX6_toldBy 1 = .ok (.invokestatic 215, 3) := by decide +kernel
theorem dX6_toldBy_4 : decode cX6_toldBy 4 = .ok (.ifCond .eq 12, 3) := by decide +kernel
theorem dX6_toldBy_7 : decode cX6_toldBy 7 = .ok (.iload_n 2, 1) := by decide +kernel
theorem dX6_toldBy_8 : decode cX6_toldBy 8 = .ok (.iconst 0, 1) := by decide +kernel
theorem dX6_toldBy_9 : decode cX6_toldBy 9 = .ok (.iconst 1, 1) := by decide +kernel
theorem dX6_toldBy_10 : decode cX6_toldBy 10 = .ok (.invokestatic 78, 3) := by decide +kernel
theorem dX6_toldBy_13 : decode cX6_toldBy 13 = .ok (.ifCond .ne 6, 3) := by decide +kernel
theorem dX6_toldBy_16 : decode cX6_toldBy 16 = .ok (.ldc 85, 2) := by decide +kernel
theorem dX6_toldBy_18 : decode cX6_toldBy 18 = .ok (.ireturn, 1) := by decide +kernel
theorem dX6_toldBy_19 : decode cX6_toldBy 19 = .ok (.aload_n 0, 1) := by decide +kernel
theorem dX6_toldBy_20 : decode cX6_toldBy 20 = .ok (.getfield 51, 3) := by decide +kernel
theorem dX6_toldBy_23 : decode cX6_toldBy 23 = .ok (.iload_n 1, 1) := by decide +kernel
theorem dX6_toldBy_24 : decode cX6_toldBy 24 = .ok (.aaload, 1) := by decide +kernel
theorem dX6_toldBy_25 : decode cX6_toldBy 25 = .ok (.getfield 218, 3) := by decide +kernel
theorem dX6_toldBy_28 : decode cX6_toldBy 28 = .ok (.iconst (-1), 1) := by decide +kernel
theorem dX6_toldBy_29 : decode cX6_toldBy 29 = .ok (.if_icmp .ne 6, 3) := by decide +kernel
theorem dX6_toldBy_32 : decode cX6_toldBy 32 = .ok (.ldc 221, 2) := by decide +kernel
theorem dX6_toldBy_34 : decode cX6_toldBy 34 = .ok (.ireturn, 1) := by decide +kernel
theorem dX6_toldBy_35 : decode cX6_toldBy 35 = .ok (.aload_n 0, 1) := by decide +kernel
theorem dX6_toldBy_36 : decode cX6_toldBy 36 = .ok (.getfield 28, 3) := by decide +kernel
theorem dX6_toldBy_39 : decode cX6_toldBy 39 = .ok (.getfield 86, 3) := by decide +kernel
theorem dX6_toldBy_42 : decode cX6_toldBy 42 = .ok (.ifCond .ne 6, 3) := by decide +kernel
theorem dX6_toldBy_45 : decode cX6_toldBy 45 = .ok (.ldc 184, 2) := by decide +kernel
theorem dX6_toldBy_47 : decode cX6_toldBy 47 = .ok (.ireturn, 1) := by decide +kernel
theorem dX6_toldBy_48 : decode cX6_toldBy 48 = .ok (.aload_n 0, 1) := by decide +kernel
theorem dX6_toldBy_49 : decode cX6_toldBy 49 = .ok (.aload_n 0, 1) := by decide +kernel
theorem dX6_toldBy_50 : decode cX6_toldBy 50 = .ok (.getfield 51, 3) := by decide +kernel
theorem dX6_toldBy_53 : decode cX6_toldBy 53 = .ok (.iload_n 1, 1) := by decide +kernel
theorem dX6_toldBy_54 : decode cX6_toldBy 54 = .ok (.aaload, 1) := by decide +kernel
theorem dX6_toldBy_55 : decode cX6_toldBy 55 = .ok (.invokevirtual 222, 3) := by decide +kernel
theorem dX6_toldBy_58 : decode cX6_toldBy 58 = .ok (.iconst 0, 1) := by decide +kernel
theorem dX6_toldBy_59 : decode cX6_toldBy 59 = .ok (.istore_n 3, 1) := by decide +kernel
theorem dX6_toldBy_60 : decode cX6_toldBy 60 = .ok (.iconst 1, 1) := by decide +kernel
theorem dX6_toldBy_61 : decode cX6_toldBy 61 = .ok (.istore 4, 2) := by decide +kernel
theorem dX6_toldBy_63 : decode cX6_toldBy 63 = .ok (.iload 4, 2) := by decide +kernel
theorem dX6_toldBy_65 : decode cX6_toldBy 65 = .ok (.aload_n 0, 1) := by decide +kernel
theorem dX6_toldBy_66 : decode cX6_toldBy 66 = .ok (.getfield 28, 3) := by decide +kernel
theorem dX6_toldBy_69 : decode cX6_toldBy 69 = .ok (.getfield 86, 3) := by decide +kernel
theorem dX6_toldBy_72 : decode cX6_toldBy 72 = .ok (.if_icmp .ge 28, 3) := by decide +kernel
theorem dX6_toldBy_75 : decode cX6_toldBy 75 = .ok (.aload_n 0, 1) := by decide +kernel
theorem dX6_toldBy_76 : decode cX6_toldBy 76 = .ok (.getfield 45, 3) := by decide +kernel
theorem dX6_toldBy_79 : decode cX6_toldBy 79 = .ok (.iload 4, 2) := by decide +kernel
theorem dX6_toldBy_81 : decode cX6_toldBy 81 = .ok (.iaload, 1) := by decide +kernel
theorem dX6_toldBy_82 : decode cX6_toldBy 82 = .ok (.aload_n 0, 1) := by decide +kernel
theorem dX6_toldBy_83 : decode cX6_toldBy 83 = .ok (.getfield 45, 3) := by decide +kernel
theorem dX6_toldBy_86 : decode cX6_toldBy 86 = .ok (.iload_n 3, 1) := by decide +kernel
theorem dX6_toldBy_87 : decode cX6_toldBy 87 = .ok (.iaload, 1) := by decide +kernel
theorem dX6_toldBy_88 : decode cX6_toldBy 88 = .ok (.if_icmp .ge 6, 3) := by decide +kernel
theorem dX6_toldBy_91 : decode cX6_toldBy 91 = .ok (.iload 4, 2) := by decide +kernel
theorem dX6_toldBy_93 : decode cX6_toldBy 93 = .ok (.istore_n 3, 1) := by decide +kernel
theorem dX6_toldBy_94 : decode cX6_toldBy 94 = .ok (.iinc 4 1, 3) := by decide +kernel
theorem dX6_toldBy_97 : decode cX6_toldBy 97 = .ok (.goto (-34), 3) := by decide +kernel
theorem dX6_toldBy_100 : decode cX6_toldBy 100 = .ok (.iload_n 2, 1) := by decide +kernel
theorem dX6_toldBy_101 : decode cX6_toldBy 101 = .ok (.ifCond .ne 7, 3) := by decide +kernel
theorem dX6_toldBy_104 : decode cX6_toldBy 104 = .ok (.iload_n 3, 1) := by decide +kernel
theorem dX6_toldBy_105 : decode cX6_toldBy 105 = .ok (.goto 9, 3) := by decide +kernel
theorem dX6_toldBy_108 : decode cX6_toldBy 108 = .ok (.aload_n 0, 1) := by decide +kernel
theorem dX6_toldBy_109 : decode cX6_toldBy 109 = .ok (.getfield 45, 3) := by decide +kernel
theorem dX6_toldBy_112 : decode cX6_toldBy 112 = .ok (.iload_n 3, 1) := by decide +kernel
theorem dX6_toldBy_113 : decode cX6_toldBy 113 = .ok (.iaload, 1) := by decide +kernel
theorem dX6_toldBy_114 : decode cX6_toldBy 114 = .ok (.ireturn, 1) := by decide +kernel
theorem dX6_fine_0 : decode cX6_fine 0 = .ok (.iload_n 1, 1) := by decide +kernel
theorem dX6_fine_1 : decode cX6_fine 1 = .ok (.invokestatic 82, 3) := by decide +kernel
theorem dX6_fine_4 : decode cX6_fine 4 = .ok (.ifCond .ne 6, 3) := by decide +kernel
theorem dX6_fine_7 : decode cX6_fine 7 = .ok (.ldc 85, 2) := by decide +kernel
theorem dX6_fine_9 : decode cX6_fine 9 = .ok (.ireturn, 1) := by decide +kernel
theorem dX6_fine_10 : decode cX6_fine 10 = .ok (.aload_n 0, 1) := by decide +kernel
theorem dX6_fine_11 : decode cX6_fine 11 = .ok (.getfield 28, 3) := by decide +kernel
theorem dX6_fine_14 : decode cX6_fine 14 = .ok (.getfield 226, 3) := by decide +kernel
theorem dX6_fine_17 : decode cX6_fine 17 = .ok (.iconst 2, 1) := by decide +kernel
theorem dX6_fine_18 : decode cX6_fine 18 = .ok (.iaload, 1) := by decide +kernel
theorem dX6_fine_19 : decode cX6_fine 19 = .ok (.istore_n 2, 1) := by decide +kernel
theorem dX6_fine_20 : decode cX6_fine 20 = .ok (.iload_n 2, 1) := by decide +kernel
theorem dX6_fine_21 : decode cX6_fine 21 = .ok (.ifCond .ge 13, 3) := by decide +kernel
theorem dX6_fine_24 : decode cX6_fine 24 = .ok (.aload_n 0, 1) := by decide +kernel
theorem dX6_fine_25 : decode cX6_fine 25 = .ok (.getfield 28, 3) := by decide +kernel
theorem dX6_fine_28 : decode cX6_fine 28 = .ok (.getfield 132, 3) := by decide +kernel
theorem dX6_fine_31 : decode cX6_fine 31 = .ok (.iload_n 1, 1) := by decide +kernel
theorem dX6_fine_32 : decode cX6_fine 32 = .ok (.iaload, 1) := by decide +kernel
theorem dX6_fine_33 : decode cX6_fine 33 = .ok (.ireturn, 1) := by decide +kernel
theorem dX6_fine_34 : decode cX6_fine 34 = .ok (.aload_n 0, 1) := by decide +kernel
theorem dX6_fine_35 : decode cX6_fine 35 = .ok (.getfield 10, 3) := by decide +kernel
theorem dX6_fine_38 : decode cX6_fine 38 = .ok (.iload_n 2, 1) := by decide +kernel
theorem dX6_fine_39 : decode cX6_fine 39 = .ok (.aload_n 0, 1) := by decide +kernel
theorem dX6_fine_40 : decode cX6_fine 40 = .ok (.getfield 28, 3) := by decide +kernel
theorem dX6_fine_43 : decode cX6_fine 43 = .ok (.getfield 132, 3) := by decide +kernel
theorem dX6_fine_46 : decode cX6_fine 46 = .ok (.iload_n 1, 1) := by decide +kernel
theorem dX6_fine_47 : decode cX6_fine 47 = .ok (.iaload, 1) := by decide +kernel
theorem dX6_fine_48 : decode cX6_fine 48 = .ok (.aload_n 0, 1) := by decide +kernel
theorem dX6_fine_49 : decode cX6_fine 49 = .ok (.getfield 28, 3) := by decide +kernel
theorem dX6_fine_52 : decode cX6_fine 52 = .ok (.iload_n 1, 1) := by decide +kernel
theorem dX6_fine_53 : decode cX6_fine 53 = .ok (.invokevirtual 138, 3) := by decide +kernel
theorem dX6_fine_56 : decode cX6_fine 56 = .ok (.invokestatic 229, 3) := by decide +kernel
theorem dX6_fine_59 : decode cX6_fine 59 = .ok (.iconst 0, 1) := by decide +kernel
theorem dX6_fine_60 : decode cX6_fine 60 = .ok (.invokevirtual 234, 3) := by decide +kernel
theorem dX6_fine_63 : decode cX6_fine 63 = .ok (.ireturn, 1) := by decide +kernel
theorem dX6_feed_0 : decode cX6_feed 0 = .ok (.aload_n 0, 1) := by decide +kernel
theorem dX6_feed_1 : decode cX6_feed 1 = .ok (.getfield 19, 3) := by decide +kernel
theorem dX6_feed_4 : decode cX6_feed 4 = .ok (.getfield 237, 3) := by decide +kernel
theorem dX6_feed_7 : decode cX6_feed 7 = .ok (.bipush 84, 2) := by decide +kernel
theorem dX6_feed_9 : decode cX6_feed 9 = .ok (.if_icmp .le 6, 3) := by decide +kernel
theorem dX6_feed_12 : decode cX6_feed 12 = .ok (.ldc 89, 2) := by decide +kernel
theorem dX6_feed_14 : decode cX6_feed 14 = .ok (.ireturn, 1) := by decide +kernel
theorem dX6_feed_15 : decode cX6_feed 15 = .ok (.aload_n 0, 1) := by decide +kernel
theorem dX6_feed_16 : decode cX6_feed 16 = .ok (.getfield 19, 3) := by decide +kernel
theorem dX6_feed_19 : decode cX6_feed 19 = .ok (.iload_n 1, 1) := by decide +kernel
theorem dX6_feed_20 : decode cX6_feed 20 = .ok (.invokevirtual 240, 3) := by decide +kernel
theorem dX6_feed_23 : decode cX6_feed 23 = .ok (.aload_n 0, 1) := by decide +kernel
theorem dX6_feed_24 : decode cX6_feed 24 = .ok (.getfield 19, 3) := by decide +kernel
theorem dX6_feed_27 : decode cX6_feed 27 = .ok (.iload_n 2, 1) := by decide +kernel
theorem dX6_feed_28 : decode cX6_feed 28 = .ok (.invokevirtual 240, 3) := by decide +kernel
theorem dX6_feed_31 : decode cX6_feed 31 = .ok (.aload_n 0, 1) := by decide +kernel
theorem dX6_feed_32 : decode cX6_feed 32 = .ok (.getfield 19, 3) := by decide +kernel
theorem dX6_feed_35 : decode cX6_feed 35 = .ok (.iload_n 3, 1) := by decide +kernel
theorem dX6_feed_36 : decode cX6_feed 36 = .ok (.invokevirtual 240, 3) := by decide +kernel
theorem dX6_feed_39 : decode cX6_feed 39 = .ok (.aload_n 0, 1) := by decide +kernel
theorem dX6_feed_40 : decode cX6_feed 40 = .ok (.getfield 19, 3) := by decide +kernel
theorem dX6_feed_43 : decode cX6_feed 43 = .ok (.getfield 237, 3) := by decide +kernel
theorem dX6_feed_46 : decode cX6_feed 46 = .ok (.ireturn, 1) := by decide +kernel
theorem dX6_trim_0 : decode cX6_trim 0 = .ok (.iload_n 1, 1) := by decide +kernel
theorem dX6_trim_1 : decode cX6_trim 1 = .ok (.iconst 0, 1) := by decide +kernel
theorem dX6_trim_2 : decode cX6_trim 2 = .ok (.aload_n 0, 1) := by decide +kernel
theorem dX6_trim_3 : decode cX6_trim 3 = .ok (.getfield 19, 3) := by decide +kernel
theorem dX6_trim_6 : decode cX6_trim 6 = .ok (.getfield 237, 3) := by decide +kernel
theorem dX6_trim_9 : decode cX6_trim 9 = .ok (.invokestatic 78, 3) := by decide +kernel
theorem dX6_trim_12 : decode cX6_trim 12 = .ok (.ifCond .ne 6, 3) := by decide +kernel
theorem dX6_trim_15 : decode cX6_trim 15 = .ok (.ldc 85, 2) := by decide +kernel
theorem dX6_trim_17 : decode cX6_trim 17 = .ok (.ireturn, 1) := by decide +kernel
theorem dX6_trim_18 : decode cX6_trim 18 = .ok (.aload_n 0, 1) := by decide +kernel
theorem dX6_trim_19 : decode cX6_trim 19 = .ok (.getfield 19, 3) := by decide +kernel
theorem dX6_trim_22 : decode cX6_trim 22 = .ok (.iload_n 1, 1) := by decide +kernel
theorem dX6_trim_23 : decode cX6_trim 23 = .ok (.putfield 237, 3) := by decide +kernel
theorem dX6_trim_26 : decode cX6_trim 26 = .ok (.iload_n 1, 1) := by decide +kernel
theorem dX6_trim_27 : decode cX6_trim 27 = .ok (.ireturn, 1) := by decide +kernel
theorem dX6_text_0 : decode cX6_text 0 = .ok (.aload_n 0, 1) := by decide +kernel
theorem dX6_text_1 : decode cX6_text 1 = .ok (.getfield 19, 3) := by decide +kernel
theorem dX6_text_4 : decode cX6_text 4 = .ok (.invokevirtual 243, 3) := by decide +kernel
theorem dX6_text_7 : decode cX6_text 7 = .ok (.istore_n 1, 1) := by decide +kernel
theorem dX6_text_8 : decode cX6_text 8 = .ok (.aload_n 0, 1) := by decide +kernel
theorem dX6_text_9 : decode cX6_text 9 = .ok (.getfield 19, 3) := by decide +kernel
theorem dX6_text_12 : decode cX6_text 12 = .ok (.iconst 0, 1) := by decide +kernel
theorem dX6_text_13 : decode cX6_text 13 = .ok (.putfield 237, 3) := by decide +kernel
theorem dX6_text_16 : decode cX6_text 16 = .ok (.iload_n 1, 1) := by decide +kernel
theorem dX6_text_17 : decode cX6_text 17 = .ok (.ifCond .ne 14, 3) := by decide +kernel
theorem dX6_text_20 : decode cX6_text 20 = .ok (.bipush (-100), 2) := by decide +kernel
theorem dX6_text_22 : decode cX6_text 22 = .ok (.aload_n 0, 1) := by decide +kernel
theorem dX6_text_23 : decode cX6_text 23 = .ok (.getfield 19, 3) := by decide +kernel
theorem dX6_text_26 : decode cX6_text 26 = .ok (.getfield 247, 3) := by decide +kernel
theorem dX6_text_29 : decode cX6_text 29 = .ok (.isub, 1) := by decide +kernel
theorem dX6_text_30 : decode cX6_text 30 = .ok (.ireturn, 1) := by decide +kernel
theorem dX6_text_31 : decode cX6_text 31 = .ok (.aload_n 0, 1) := by decide +kernel
theorem dX6_text_32 : decode cX6_text 32 = .ok (.getfield 28, 3) := by decide +kernel
theorem dX6_text_35 : decode cX6_text 35 = .ok (.getfield 250, 3) := by decide +kernel
theorem dX6_text_38 : decode cX6_text 38 = .ok (.bipush 14, 2) := by decide +kernel
theorem dX6_text_40 : decode cX6_text 40 = .ok (.if_icmp .lt 6, 3) := by decide +kernel
theorem dX6_text_43 : decode cX6_text 43 = .ok (.ldc 89, 2) := by decide +kernel
theorem dX6_text_45 : decode cX6_text 45 = .ok (.ireturn, 1) := by decide +kernel
theorem dX6_text_46 : decode cX6_text 46 = .ok (.aload_n 0, 1) := by decide +kernel
theorem dX6_text_47 : decode cX6_text 47 = .ok (.getfield 28, 3) := by decide +kernel
theorem dX6_text_50 : decode cX6_text 50 = .ok (.getfield 250, 3) := by decide +kernel
theorem dX6_text_53 : decode cX6_text 53 = .ok (.istore_n 2, 1) := by decide +kernel
theorem dX6_text_54 : decode cX6_text 54 = .ok (.aload_n 0, 1) := by decide +kernel
theorem dX6_text_55 : decode cX6_text 55 = .ok (.getfield 10, 3) := by decide +kernel
theorem dX6_text_58 : decode cX6_text 58 = .ok (.iload_n 2, 1) := by decide +kernel
theorem dX6_text_59 : decode cX6_text 59 = .ok (.aload_n 0, 1) := by decide +kernel
theorem dX6_text_60 : decode cX6_text 60 = .ok (.getfield 19, 3) := by decide +kernel
theorem dX6_text_63 : decode cX6_text 63 = .ok (.invokevirtual 253, 3) := by decide +kernel
theorem dX6_text_66 : decode cX6_text 66 = .ok (.aload_n 0, 1) := by decide +kernel
theorem dX6_text_67 : decode cX6_text 67 = .ok (.getfield 28, 3) := by decide +kernel
theorem dX6_text_70 : decode cX6_text 70 = .ok (.iload_n 2, 1) := by decide +kernel
theorem dX6_text_71 : decode cX6_text 71 = .ok (.iconst 1, 1) := by decide +kernel
theorem dX6_text_72 : decode cX6_text 72 = .ok (.iadd, 1) := by decide +kernel
theorem dX6_text_73 : decode cX6_text 73 = .ok (.putfield 250, 3) := by decide +kernel
theorem dX6_text_76 : decode cX6_text 76 = .ok (.aload_n 0, 1) := by decide +kernel
theorem dX6_text_77 : decode cX6_text 77 = .ok (.getfield 28, 3) := by decide +kernel
theorem dX6_text_80 : decode cX6_text 80 = .ok (.getfield 226, 3) := by decide +kernel
theorem dX6_text_83 : decode cX6_text 83 = .ok (.aload_n 0, 1) := by decide +kernel
theorem dX6_text_84 : decode cX6_text 84 = .ok (.getfield 19, 3) := by decide +kernel
theorem dX6_text_87 : decode cX6_text 87 = .ok (.getfield 257, 3) := by decide +kernel
theorem dX6_text_90 : decode cX6_text 90 = .ok (.iload_n 2, 1) := by decide +kernel
theorem dX6_text_91 : decode cX6_text 91 = .ok (.iastore, 1) := by decide +kernel
theorem dX6_text_92 : decode cX6_text 92 = .ok (.iload_n 2, 1) := by decide +kernel
theorem dX6_text_93 : decode cX6_text 93 = .ok (.ireturn, 1) := by decide +kernel
theorem dX6_textTold_0 : decode cX6_textTold 0 = .ok (.iload_n 1, 1) := by decide +kernel
theorem dX6_textTold_1 : decode cX6_textTold 1 = .ok (.iconst 0, 1) := by decide +kernel
theorem dX6_textTold_2 : decode cX6_textTold 2 = .ok (.aload_n 0, 1) := by decide +kernel
theorem dX6_textTold_3 : decode cX6_textTold 3 = .ok (.getfield 28, 3) := by decide +kernel
theorem dX6_textTold_6 : decode cX6_textTold 6 = .ok (.getfield 250, 3) := by decide +kernel
theorem dX6_textTold_9 : decode cX6_textTold 9 = .ok (.iconst 1, 1) := by decide +kernel
theorem dX6_textTold_10 : decode cX6_textTold 10 = .ok (.isub, 1) := by decide +kernel
theorem dX6_textTold_11 : decode cX6_textTold 11 = .ok (.invokestatic 78, 3) := by decide +kernel
theorem dX6_textTold_14 : decode cX6_textTold 14 = .ok (.ifCond .ne 6, 3) := by decide +kernel
theorem dX6_textTold_17 : decode cX6_textTold 17 = .ok (.ldc 85, 2) := by decide +kernel
theorem dX6_textTold_19 : decode cX6_textTold 19 = .ok (.ireturn, 1) := by decide +kernel
theorem dX6_textTold_20 : decode cX6_textTold 20 = .ok (.iload_n 2, 1) := by decide +kernel
theorem dX6_textTold_21 : decode cX6_textTold 21 = .ok (.lookupswitch 47 #[(0, 27), (1, 37)], 27) := by decide +kernel
theorem dX6_textTold_48 : decode cX6_textTold 48 = .ok (.aload_n 0, 1) := by decide +kernel
theorem dX6_textTold_49 : decode cX6_textTold 49 = .ok (.getfield 10, 3) := by decide +kernel
theorem dX6_textTold_52 : decode cX6_textTold 52 = .ok (.getfield 260, 3) := by decide +kernel
theorem dX6_textTold_55 : decode cX6_textTold 55 = .ok (.iload_n 1, 1) := by decide +kernel
theorem dX6_textTold_56 : decode cX6_textTold 56 = .ok (.iaload, 1) := by decide +kernel
theorem dX6_textTold_57 : decode cX6_textTold 57 = .ok (.ireturn, 1) := by decide +kernel
theorem dX6_textTold_58 : decode cX6_textTold 58 = .ok (.aload_n 0, 1) := by decide +kernel
theorem dX6_textTold_59 : decode cX6_textTold 59 = .ok (.getfield 10, 3) := by decide +kernel
theorem dX6_textTold_62 : decode cX6_textTold 62 = .ok (.getfield 262, 3) := by decide +kernel
theorem dX6_textTold_65 : decode cX6_textTold 65 = .ok (.iload_n 1, 1) := by decide +kernel
theorem dX6_textTold_66 : decode cX6_textTold 66 = .ok (.iaload, 1) := by decide +kernel
theorem dX6_textTold_67 : decode cX6_textTold 67 = .ok (.ireturn, 1) := by decide +kernel
theorem dX6_textTold_68 : decode cX6_textTold 68 = .ok (.ldc 85, 2) := by decide +kernel
theorem dX6_textTold_70 : decode cX6_textTold 70 = .ok (.ireturn, 1) := by decide +kernel
theorem dX6_why_0 : decode cX6_why 0 = .ok (.iload_n 1, 1) := by decide +kernel
theorem dX6_why_1 : decode cX6_why 1 = .ok (.iconst 0, 1) := by decide +kernel
theorem dX6_why_2 : decode cX6_why 2 = .ok (.iconst 2, 1) := by decide +kernel
theorem dX6_why_3 : decode cX6_why 3 = .ok (.invokestatic 78, 3) := by decide +kernel
theorem dX6_why_6 : decode cX6_why 6 = .ok (.ifCond .ne 6, 3) := by decide +kernel
theorem dX6_why_9 : decode cX6_why 9 = .ok (.ldc 85, 2) := by decide +kernel
theorem dX6_why_11 : decode cX6_why 11 = .ok (.ireturn, 1) := by decide +kernel
theorem dX6_why_12 : decode cX6_why 12 = .ok (.aload_n 0, 1) := by decide +kernel
theorem dX6_why_13 : decode cX6_why 13 = .ok (.getfield 28, 3) := by decide +kernel
theorem dX6_why_16 : decode cX6_why 16 = .ok (.getfield 226, 3) := by decide +kernel
theorem dX6_why_19 : decode cX6_why 19 = .ok (.iload_n 1, 1) := by decide +kernel
theorem dX6_why_20 : decode cX6_why 20 = .ok (.iaload, 1) := by decide +kernel
theorem dX6_why_21 : decode cX6_why 21 = .ok (.ifCond .ge 8, 3) := by decide +kernel
theorem dX6_why_24 : decode cX6_why 24 = .ok (.ldc 184, 2) := by decide +kernel
theorem dX6_why_26 : decode cX6_why 26 = .ok (.goto 12, 3) := by decide +kernel
theorem dX6_why_29 : decode cX6_why 29 = .ok (.aload_n 0, 1) := by decide +kernel
theorem dX6_why_30 : decode cX6_why 30 = .ok (.getfield 28, 3) := by decide +kernel
theorem dX6_why_33 : decode cX6_why 33 = .ok (.getfield 226, 3) := by decide +kernel
theorem dX6_why_36 : decode cX6_why 36 = .ok (.iload_n 1, 1) := by decide +kernel
theorem dX6_why_37 : decode cX6_why 37 = .ok (.iaload, 1) := by decide +kernel
theorem dX6_why_38 : decode cX6_why 38 = .ok (.ireturn, 1) := by decide +kernel
theorem dX6_sheet_0 : decode cX6_sheet 0 = .ok (.iload_n 1, 1) := by decide +kernel
theorem dX6_sheet_1 : decode cX6_sheet 1 = .ok (.invokestatic 215, 3) := by decide +kernel
theorem dX6_sheet_4 : decode cX6_sheet 4 = .ok (.ifCond .eq 12, 3) := by decide +kernel
theorem dX6_sheet_7 : decode cX6_sheet 7 = .ok (.iload_n 2, 1) := by decide +kernel
theorem dX6_sheet_8 : decode cX6_sheet 8 = .ok (.iconst (-1), 1) := by decide +kernel
theorem dX6_sheet_9 : decode cX6_sheet 9 = .ok (.iconst 1, 1) := by decide +kernel
theorem dX6_sheet_10 : decode cX6_sheet 10 = .ok (.invokestatic 78, 3) := by decide +kernel
theorem dX6_sheet_13 : decode cX6_sheet 13 = .ok (.ifCond .ne 6, 3) := by decide +kernel
theorem dX6_sheet_16 : decode cX6_sheet 16 = .ok (.ldc 85, 2) := by decide +kernel
theorem dX6_sheet_18 : decode cX6_sheet 18 = .ok (.ireturn, 1) := by decide +kernel
theorem dX6_sheet_19 : decode cX6_sheet 19 = .ok (.iload_n 2, 1) := by decide +kernel
theorem dX6_sheet_20 : decode cX6_sheet 20 = .ok (.iconst (-1), 1) := by decide +kernel
theorem dX6_sheet_21 : decode cX6_sheet 21 = .ok (.if_icmp .ne 16, 3) := by decide +kernel
theorem dX6_sheet_24 : decode cX6_sheet 24 = .ok (.aload_n 0, 1) := by decide +kernel
theorem dX6_sheet_25 : decode cX6_sheet 25 = .ok (.getfield 51, 3) := by decide +kernel
theorem dX6_sheet_28 : decode cX6_sheet 28 = .ok (.iload_n 1, 1) := by decide +kernel
theorem dX6_sheet_29 : decode cX6_sheet 29 = .ok (.aaload, 1) := by decide +kernel
theorem dX6_sheet_30 : decode cX6_sheet 30 = .ok (.iconst (-1), 1) := by decide +kernel
theorem dX6_sheet_31 : decode cX6_sheet 31 = .ok (.iconst 0, 1) := by decide +kernel
theorem dX6_sheet_32 : decode cX6_sheet 32 = .ok (.invokevirtual 265, 3) := by decide +kernel
theorem dX6_sheet_35 : decode cX6_sheet 35 = .ok (.iconst 0, 1) := by decide +kernel
theorem dX6_sheet_36 : decode cX6_sheet 36 = .ok (.ireturn, 1) := by decide +kernel
theorem dX6_sheet_37 : decode cX6_sheet 37 = .ok (.iload_n 3, 1) := by decide +kernel
theorem dX6_sheet_38 : decode cX6_sheet 38 = .ok (.bipush 24, 2) := by decide +kernel
theorem dX6_sheet_40 : decode cX6_sheet 40 = .ok (.if_icmp .le 6, 3) := by decide +kernel
theorem dX6_sheet_43 : decode cX6_sheet 43 = .ok (.ldc 85, 2) := by decide +kernel
theorem dX6_sheet_45 : decode cX6_sheet 45 = .ok (.ireturn, 1) := by decide +kernel
theorem dX6_sheet_46 : decode cX6_sheet 46 = .ok (.iload_n 3, 1) := by decide +kernel
theorem dX6_sheet_47 : decode cX6_sheet 47 = .ok (.ifCond .ge 7, 3) := by decide +kernel
theorem dX6_sheet_50 : decode cX6_sheet 50 = .ok (.ldc_w 269, 3) := by decide +kernel
theorem dX6_sheet_53 : decode cX6_sheet 53 = .ok (.ireturn, 1) := by decide +kernel
theorem dX6_sheet_54 : decode cX6_sheet 54 = .ok (.aload_n 0, 1) := by decide +kernel
theorem dX6_sheet_55 : decode cX6_sheet 55 = .ok (.getfield 51, 3) := by decide +kernel
theorem dX6_sheet_58 : decode cX6_sheet 58 = .ok (.iload_n 1, 1) := by decide +kernel
theorem dX6_sheet_59 : decode cX6_sheet 59 = .ok (.aaload, 1) := by decide +kernel
theorem dX6_sheet_60 : decode cX6_sheet 60 = .ok (.iload_n 2, 1) := by decide +kernel
theorem dX6_sheet_61 : decode cX6_sheet 61 = .ok (.iload_n 3, 1) := by decide +kernel
theorem dX6_sheet_62 : decode cX6_sheet 62 = .ok (.invokevirtual 265, 3) := by decide +kernel
theorem dX6_sheet_65 : decode cX6_sheet 65 = .ok (.iload_n 3, 1) := by decide +kernel
theorem dX6_sheet_66 : decode cX6_sheet 66 = .ok (.ireturn, 1) := by decide +kernel
theorem dX6_mark_0 : decode cX6_mark 0 = .ok (.iload_n 1, 1) := by decide +kernel
theorem dX6_mark_1 : decode cX6_mark 1 = .ok (.invokestatic 215, 3) := by decide +kernel
theorem dX6_mark_4 : decode cX6_mark 4 = .ok (.ifCond .ne 6, 3) := by decide +kernel
theorem dX6_mark_7 : decode cX6_mark 7 = .ok (.ldc 85, 2) := by decide +kernel
theorem dX6_mark_9 : decode cX6_mark 9 = .ok (.ireturn, 1) := by decide +kernel
theorem dX6_mark_10 : decode cX6_mark 10 = .ok (.aload_n 0, 1) := by decide +kernel
theorem dX6_mark_11 : decode cX6_mark 11 = .ok (.getfield 51, 3) := by decide +kernel
theorem dX6_mark_14 : decode cX6_mark 14 = .ok (.iload_n 1, 1) := by decide +kernel
theorem dX6_mark_15 : decode cX6_mark 15 = .ok (.aaload, 1) := by decide +kernel
theorem dX6_mark_16 : decode cX6_mark 16 = .ok (.astore 4, 2) := by decide +kernel
theorem dX6_mark_18 : decode cX6_mark 18 = .ok (.aload 4, 2) := by decide +kernel
theorem dX6_mark_20 : decode cX6_mark 20 = .ok (.getfield 218, 3) := by decide +kernel
theorem dX6_mark_23 : decode cX6_mark 23 = .ok (.iconst (-1), 1) := by decide +kernel
theorem dX6_mark_24 : decode cX6_mark 24 = .ok (.if_icmp .ne 6, 3) := by decide +kernel
theorem dX6_mark_27 : decode cX6_mark 27 = .ok (.ldc 221, 2) := by decide +kernel
theorem dX6_mark_29 : decode cX6_mark 29 = .ok (.ireturn, 1) := by decide +kernel
theorem dX6_mark_30 : decode cX6_mark 30 = .ok (.aload 4, 2) := by decide +kernel
theorem dX6_mark_32 : decode cX6_mark 32 = .ok (.iload_n 2, 1) := by decide +kernel
theorem dX6_mark_33 : decode cX6_mark 33 = .ok (.invokevirtual 270, 3) := by decide +kernel
theorem dX6_mark_36 : decode cX6_mark 36 = .ok (.ifCond .ne 7, 3) := by decide +kernel
theorem dX6_mark_39 : decode cX6_mark 39 = .ok (.ldc_w 273, 3) := by decide +kernel
theorem dX6_mark_42 : decode cX6_mark 42 = .ok (.ireturn, 1) := by decide +kernel
end
section
theorem dX6_mark_43 : decode cX6_mark 43 = .ok (.aload 4, 2) := by decide +kernel
theorem dX6_mark_45 : decode cX6_mark 45 = .ok (.getfield 218, 3) := by decide +kernel
theorem dX6_mark_48 : decode cX6_mark 48 = .ok (.ifCond .ne 23, 3) := by decide +kernel
theorem dX6_mark_51 : decode cX6_mark 51 = .ok (.iload_n 3, 1) := by decide +kernel
theorem dX6_mark_52 : decode cX6_mark 52 = .ok (.ldc 184, 2) := by decide +kernel
theorem dX6_mark_54 : decode cX6_mark 54 = .ok (.if_icmp .ne 6, 3) := by decide +kernel
theorem dX6_mark_57 : decode cX6_mark 57 = .ok (.ldc 127, 2) := by decide +kernel
theorem dX6_mark_59 : decode cX6_mark 59 = .ok (.ireturn, 1) := by decide +kernel
theorem dX6_mark_60 : decode cX6_mark 60 = .ok (.aload 4, 2) := by decide +kernel
theorem dX6_mark_62 : decode cX6_mark 62 = .ok (.getfield 274, 3) := by decide +kernel
theorem dX6_mark_65 : decode cX6_mark 65 = .ok (.iload_n 2, 1) := by decide +kernel
theorem dX6_mark_66 : decode cX6_mark 66 = .ok (.iload_n 3, 1) := by decide +kernel
theorem dX6_mark_67 : decode cX6_mark 67 = .ok (.i2s, 1) := by decide +kernel
theorem dX6_mark_68 : decode cX6_mark 68 = .ok (.iastore, 1) := by decide +kernel
theorem dX6_mark_69 : decode cX6_mark 69 = .ok (.iconst 1, 1) := by decide +kernel
theorem dX6_mark_70 : decode cX6_mark 70 = .ok (.ireturn, 1) := by decide +kernel
theorem dX6_mark_71 : decode cX6_mark 71 = .ok (.iload_n 3, 1) := by decide +kernel
theorem dX6_mark_72 : decode cX6_mark 72 = .ok (.ldc 184, 2) := by decide +kernel
theorem dX6_mark_74 : decode cX6_mark 74 = .ok (.if_icmp .eq 19, 3) := by decide +kernel
theorem dX6_mark_77 : decode cX6_mark 77 = .ok (.iload_n 3, 1) := by decide +kernel
theorem dX6_mark_78 : decode cX6_mark 78 = .ok (.ldc_w 277, 3) := by decide +kernel
theorem dX6_mark_81 : decode cX6_mark 81 = .ok (.ldc_w 278, 3) := by decide +kernel
theorem dX6_mark_84 : decode cX6_mark 84 = .ok (.invokestatic 78, 3) := by decide +kernel
theorem dX6_mark_87 : decode cX6_mark 87 = .ok (.ifCond .ne 6, 3) := by decide +kernel
theorem dX6_mark_90 : decode cX6_mark 90 = .ok (.ldc 85, 2) := by decide +kernel
theorem dX6_mark_92 : decode cX6_mark 92 = .ok (.ireturn, 1) := by decide +kernel
theorem dX6_mark_93 : decode cX6_mark 93 = .ok (.aload 4, 2) := by decide +kernel
theorem dX6_mark_95 : decode cX6_mark 95 = .ok (.getfield 274, 3) := by decide +kernel
theorem dX6_mark_98 : decode cX6_mark 98 = .ok (.iload_n 2, 1) := by decide +kernel
theorem dX6_mark_99 : decode cX6_mark 99 = .ok (.iload_n 3, 1) := by decide +kernel
theorem dX6_mark_100 : decode cX6_mark 100 = .ok (.iastore, 1) := by decide +kernel
theorem dX6_mark_101 : decode cX6_mark 101 = .ok (.iconst 1, 1) := by decide +kernel
theorem dX6_mark_102 : decode cX6_mark 102 = .ok (.ireturn, 1) := by decide +kernel
theorem dX6_pour_0 : decode cX6_pour 0 = .ok (.iload_n 1, 1) := by decide +kernel
theorem dX6_pour_1 : decode cX6_pour 1 = .ok (.invokestatic 215, 3) := by decide +kernel
theorem dX6_pour_4 : decode cX6_pour 4 = .ok (.ifCond .ne 6, 3) := by decide +kernel
theorem dX6_pour_7 : decode cX6_pour 7 = .ok (.ldc 85, 2) := by decide +kernel
theorem dX6_pour_9 : decode cX6_pour 9 = .ok (.ireturn, 1) := by decide +kernel
theorem dX6_pour_10 : decode cX6_pour 10 = .ok (.aload_n 0, 1) := by decide +kernel
theorem dX6_pour_11 : decode cX6_pour 11 = .ok (.getfield 51, 3) := by decide +kernel
theorem dX6_pour_14 : decode cX6_pour 14 = .ok (.iload_n 1, 1) := by decide +kernel
theorem dX6_pour_15 : decode cX6_pour 15 = .ok (.aaload, 1) := by decide +kernel
theorem dX6_pour_16 : decode cX6_pour 16 = .ok (.astore_n 2, 1) := by decide +kernel
theorem dX6_pour_17 : decode cX6_pour 17 = .ok (.aload_n 2, 1) := by decide +kernel
theorem dX6_pour_18 : decode cX6_pour 18 = .ok (.getfield 218, 3) := by decide +kernel
theorem dX6_pour_21 : decode cX6_pour 21 = .ok (.iconst (-1), 1) := by decide +kernel
theorem dX6_pour_22 : decode cX6_pour 22 = .ok (.if_icmp .ne 6, 3) := by decide +kernel
theorem dX6_pour_25 : decode cX6_pour 25 = .ok (.ldc 221, 2) := by decide +kernel
theorem dX6_pour_27 : decode cX6_pour 27 = .ok (.ireturn, 1) := by decide +kernel
theorem dX6_pour_28 : decode cX6_pour 28 = .ok (.iconst 0, 1) := by decide +kernel
theorem dX6_pour_29 : decode cX6_pour 29 = .ok (.istore_n 3, 1) := by decide +kernel
theorem dX6_pour_30 : decode cX6_pour 30 = .ok (.iconst 0, 1) := by decide +kernel
theorem dX6_pour_31 : decode cX6_pour 31 = .ok (.istore 4, 2) := by decide +kernel
theorem dX6_pour_33 : decode cX6_pour 33 = .ok (.iload 4, 2) := by decide +kernel
theorem dX6_pour_35 : decode cX6_pour 35 = .ok (.bipush 6, 2) := by decide +kernel
theorem dX6_pour_37 : decode cX6_pour 37 = .ok (.if_icmp .ge 78, 3) := by decide +kernel
theorem dX6_pour_40 : decode cX6_pour 40 = .ok (.iload 4, 2) := by decide +kernel
theorem dX6_pour_42 : decode cX6_pour 42 = .ok (.aload_n 2, 1) := by decide +kernel
theorem dX6_pour_43 : decode cX6_pour 43 = .ok (.getfield 279, 3) := by decide +kernel
theorem dX6_pour_46 : decode cX6_pour 46 = .ok (.if_icmp .ge 69, 3) := by decide +kernel
theorem dX6_pour_49 : decode cX6_pour 49 = .ok (.aload_n 2, 1) := by decide +kernel
theorem dX6_pour_50 : decode cX6_pour 50 = .ok (.iload 4, 2) := by decide +kernel
theorem dX6_pour_52 : decode cX6_pour 52 = .ok (.invokevirtual 280, 3) := by decide +kernel
theorem dX6_pour_55 : decode cX6_pour 55 = .ok (.ifCond .eq 54, 3) := by decide +kernel
theorem dX6_pour_58 : decode cX6_pour 58 = .ok (.aload_n 2, 1) := by decide +kernel
theorem dX6_pour_59 : decode cX6_pour 59 = .ok (.getfield 274, 3) := by decide +kernel
theorem dX6_pour_62 : decode cX6_pour 62 = .ok (.iload 4, 2) := by decide +kernel
theorem dX6_pour_64 : decode cX6_pour 64 = .ok (.iaload, 1) := by decide +kernel
theorem dX6_pour_65 : decode cX6_pour 65 = .ok (.iconst 0, 1) := by decide +kernel
theorem dX6_pour_66 : decode cX6_pour 66 = .ok (.sipush 9999, 3) := by decide +kernel
theorem dX6_pour_69 : decode cX6_pour 69 = .ok (.invokestatic 283, 3) := by decide +kernel
theorem dX6_pour_72 : decode cX6_pour 72 = .ok (.istore 5, 2) := by decide +kernel
theorem dX6_pour_74 : decode cX6_pour 74 = .ok (.iload_n 3, 1) := by decide +kernel
theorem dX6_pour_75 : decode cX6_pour 75 = .ok (.iload 5, 2) := by decide +kernel
theorem dX6_pour_77 : decode cX6_pour 77 = .ok (.aload_n 0, 1) := by decide +kernel
theorem dX6_pour_78 : decode cX6_pour 78 = .ok (.getfield 28, 3) := by decide +kernel
theorem dX6_pour_81 : decode cX6_pour 81 = .ok (.getfield 132, 3) := by decide +kernel
theorem dX6_pour_84 : decode cX6_pour 84 = .ok (.iload 4, 2) := by decide +kernel
theorem dX6_pour_86 : decode cX6_pour 86 = .ok (.iaload, 1) := by decide +kernel
theorem dX6_pour_87 : decode cX6_pour 87 = .ok (.if_icmp .ne 7, 3) := by decide +kernel
theorem dX6_pour_90 : decode cX6_pour 90 = .ok (.iconst 0, 1) := by decide +kernel
theorem dX6_pour_91 : decode cX6_pour 91 = .ok (.goto 4, 3) := by decide +kernel
theorem dX6_pour_94 : decode cX6_pour 94 = .ok (.iconst 1, 1) := by decide +kernel
theorem dX6_pour_95 : decode cX6_pour 95 = .ok (.iadd, 1) := by decide +kernel
theorem dX6_pour_96 : decode cX6_pour 96 = .ok (.istore_n 3, 1) := by decide +kernel
theorem dX6_pour_97 : decode cX6_pour 97 = .ok (.aload_n 0, 1) := by decide +kernel
theorem dX6_pour_98 : decode cX6_pour 98 = .ok (.getfield 28, 3) := by decide +kernel
theorem dX6_pour_101 : decode cX6_pour 101 = .ok (.getfield 132, 3) := by decide +kernel
theorem dX6_pour_104 : decode cX6_pour 104 = .ok (.iload 4, 2) := by decide +kernel
theorem dX6_pour_106 : decode cX6_pour 106 = .ok (.iload 5, 2) := by decide +kernel
theorem dX6_pour_108 : decode cX6_pour 108 = .ok (.iastore, 1) := by decide +kernel
theorem dX6_pour_109 : decode cX6_pour 109 = .ok (.iinc 4 1, 3) := by decide +kernel
theorem dX6_pour_112 : decode cX6_pour 112 = .ok (.goto (-79), 3) := by decide +kernel
theorem dX6_pour_115 : decode cX6_pour 115 = .ok (.iload_n 3, 1) := by decide +kernel
theorem dX6_pour_116 : decode cX6_pour 116 = .ok (.ireturn, 1) := by decide +kernel
theorem dX6_reads_0 : decode cX6_reads 0 = .ok (.iload_n 1, 1) := by decide +kernel
theorem dX6_reads_1 : decode cX6_reads 1 = .ok (.invokestatic 215, 3) := by decide +kernel
theorem dX6_reads_4 : decode cX6_reads 4 = .ok (.ifCond .ne 6, 3) := by decide +kernel
theorem dX6_reads_7 : decode cX6_reads 7 = .ok (.ldc 85, 2) := by decide +kernel
theorem dX6_reads_9 : decode cX6_reads 9 = .ok (.ireturn, 1) := by decide +kernel
theorem dX6_reads_10 : decode cX6_reads 10 = .ok (.aload_n 0, 1) := by decide +kernel
theorem dX6_reads_11 : decode cX6_reads 11 = .ok (.getfield 51, 3) := by decide +kernel
theorem dX6_reads_14 : decode cX6_reads 14 = .ok (.iload_n 1, 1) := by decide +kernel
theorem dX6_reads_15 : decode cX6_reads 15 = .ok (.aaload, 1) := by decide +kernel
theorem dX6_reads_16 : decode cX6_reads 16 = .ok (.astore_n 2, 1) := by decide +kernel
theorem dX6_reads_17 : decode cX6_reads 17 = .ok (.aload_n 2, 1) := by decide +kernel
theorem dX6_reads_18 : decode cX6_reads 18 = .ok (.getfield 218, 3) := by decide +kernel
theorem dX6_reads_21 : decode cX6_reads 21 = .ok (.iconst (-1), 1) := by decide +kernel
theorem dX6_reads_22 : decode cX6_reads 22 = .ok (.if_icmp .ne 6, 3) := by decide +kernel
theorem dX6_reads_25 : decode cX6_reads 25 = .ok (.ldc 221, 2) := by decide +kernel
theorem dX6_reads_27 : decode cX6_reads 27 = .ok (.ireturn, 1) := by decide +kernel
theorem dX6_reads_28 : decode cX6_reads 28 = .ok (.iconst 0, 1) := by decide +kernel
theorem dX6_reads_29 : decode cX6_reads 29 = .ok (.istore_n 3, 1) := by decide +kernel
theorem dX6_reads_30 : decode cX6_reads 30 = .ok (.iload_n 3, 1) := by decide +kernel
theorem dX6_reads_31 : decode cX6_reads 31 = .ok (.aload_n 2, 1) := by decide +kernel
theorem dX6_reads_32 : decode cX6_reads 32 = .ok (.getfield 279, 3) := by decide +kernel
theorem dX6_reads_35 : decode cX6_reads 35 = .ok (.if_icmp .ge 45, 3) := by decide +kernel
theorem dX6_reads_38 : decode cX6_reads 38 = .ok (.aload_n 2, 1) := by decide +kernel
theorem dX6_reads_39 : decode cX6_reads 39 = .ok (.iload_n 3, 1) := by decide +kernel
theorem dX6_reads_40 : decode cX6_reads 40 = .ok (.invokevirtual 280, 3) := by decide +kernel
theorem dX6_reads_43 : decode cX6_reads 43 = .ok (.ifCond .eq 31, 3) := by decide +kernel
theorem dX6_reads_46 : decode cX6_reads 46 = .ok (.aload_n 0, 1) := by decide +kernel
theorem dX6_reads_47 : decode cX6_reads 47 = .ok (.iload_n 3, 1) := by decide +kernel
theorem dX6_reads_48 : decode cX6_reads 48 = .ok (.invokevirtual 94, 3) := by decide +kernel
theorem dX6_reads_51 : decode cX6_reads 51 = .ok (.ifCond .eq 21, 3) := by decide +kernel
theorem dX6_reads_54 : decode cX6_reads 54 = .ok (.aload_n 2, 1) := by decide +kernel
theorem dX6_reads_55 : decode cX6_reads 55 = .ok (.getfield 274, 3) := by decide +kernel
theorem dX6_reads_58 : decode cX6_reads 58 = .ok (.iload_n 3, 1) := by decide +kernel
theorem dX6_reads_59 : decode cX6_reads 59 = .ok (.iaload, 1) := by decide +kernel
theorem dX6_reads_60 : decode cX6_reads 60 = .ok (.aload_n 0, 1) := by decide +kernel
theorem dX6_reads_61 : decode cX6_reads 61 = .ok (.getfield 28, 3) := by decide +kernel
theorem dX6_reads_64 : decode cX6_reads 64 = .ok (.getfield 106, 3) := by decide +kernel
theorem dX6_reads_67 : decode cX6_reads 67 = .ok (.iload_n 3, 1) := by decide +kernel
theorem dX6_reads_68 : decode cX6_reads 68 = .ok (.iaload, 1) := by decide +kernel
theorem dX6_reads_69 : decode cX6_reads 69 = .ok (.if_icmp .eq 5, 3) := by decide +kernel
theorem dX6_reads_72 : decode cX6_reads 72 = .ok (.iload_n 3, 1) := by decide +kernel
theorem dX6_reads_73 : decode cX6_reads 73 = .ok (.ireturn, 1) := by decide +kernel
theorem dX6_reads_74 : decode cX6_reads 74 = .ok (.iinc 3 1, 3) := by decide +kernel
theorem dX6_reads_77 : decode cX6_reads 77 = .ok (.goto (-47), 3) := by decide +kernel
theorem dX6_reads_80 : decode cX6_reads 80 = .ok (.ldc 184, 2) := by decide +kernel
theorem dX6_reads_82 : decode cX6_reads 82 = .ok (.ireturn, 1) := by decide +kernel
theorem dX6_copy_0 : decode cX6_copy 0 = .ok (.iload_n 1, 1) := by decide +kernel
theorem dX6_copy_1 : decode cX6_copy 1 = .ok (.invokestatic 215, 3) := by decide +kernel
theorem dX6_copy_4 : decode cX6_copy 4 = .ok (.ifCond .eq 10, 3) := by decide +kernel
theorem dX6_copy_7 : decode cX6_copy 7 = .ok (.iload_n 3, 1) := by decide +kernel
theorem dX6_copy_8 : decode cX6_copy 8 = .ok (.invokestatic 215, 3) := by decide +kernel
theorem dX6_copy_11 : decode cX6_copy 11 = .ok (.ifCond .ne 6, 3) := by decide +kernel
theorem dX6_copy_14 : decode cX6_copy 14 = .ok (.ldc 85, 2) := by decide +kernel
theorem dX6_copy_16 : decode cX6_copy 16 = .ok (.ireturn, 1) := by decide +kernel
theorem dX6_copy_17 : decode cX6_copy 17 = .ok (.aload_n 0, 1) := by decide +kernel
theorem dX6_copy_18 : decode cX6_copy 18 = .ok (.getfield 51, 3) := by decide +kernel
theorem dX6_copy_21 : decode cX6_copy 21 = .ok (.iload_n 1, 1) := by decide +kernel
theorem dX6_copy_22 : decode cX6_copy 22 = .ok (.aaload, 1) := by decide +kernel
theorem dX6_copy_23 : decode cX6_copy 23 = .ok (.astore 6, 2) := by decide +kernel
theorem dX6_copy_25 : decode cX6_copy 25 = .ok (.aload_n 0, 1) := by decide +kernel
theorem dX6_copy_26 : decode cX6_copy 26 = .ok (.getfield 51, 3) := by decide +kernel
theorem dX6_copy_29 : decode cX6_copy 29 = .ok (.iload_n 3, 1) := by decide +kernel
theorem dX6_copy_30 : decode cX6_copy 30 = .ok (.aaload, 1) := by decide +kernel
theorem dX6_copy_31 : decode cX6_copy 31 = .ok (.astore 7, 2) := by decide +kernel
theorem dX6_copy_33 : decode cX6_copy 33 = .ok (.aload 6, 2) := by decide +kernel
theorem dX6_copy_35 : decode cX6_copy 35 = .ok (.getfield 218, 3) := by decide +kernel
theorem dX6_copy_38 : decode cX6_copy 38 = .ok (.iconst (-1), 1) := by decide +kernel
theorem dX6_copy_39 : decode cX6_copy 39 = .ok (.if_icmp .eq 12, 3) := by decide +kernel
theorem dX6_copy_42 : decode cX6_copy 42 = .ok (.aload 7, 2) := by decide +kernel
theorem dX6_copy_44 : decode cX6_copy 44 = .ok (.getfield 218, 3) := by decide +kernel
theorem dX6_copy_47 : decode cX6_copy 47 = .ok (.iconst (-1), 1) := by decide +kernel
theorem dX6_copy_48 : decode cX6_copy 48 = .ok (.if_icmp .ne 6, 3) := by decide +kernel
theorem dX6_copy_51 : decode cX6_copy 51 = .ok (.ldc 221, 2) := by decide +kernel
theorem dX6_copy_53 : decode cX6_copy 53 = .ok (.ireturn, 1) := by decide +kernel
theorem dX6_copy_54 : decode cX6_copy 54 = .ok (.aload 6, 2) := by decide +kernel
theorem dX6_copy_56 : decode cX6_copy 56 = .ok (.getfield 218, 3) := by decide +kernel
theorem dX6_copy_59 : decode cX6_copy 59 = .ok (.aload 7, 2) := by decide +kernel
theorem dX6_copy_61 : decode cX6_copy 61 = .ok (.getfield 218, 3) := by decide +kernel
theorem dX6_copy_64 : decode cX6_copy 64 = .ok (.if_icmp .eq 6, 3) := by decide +kernel
theorem dX6_copy_67 : decode cX6_copy 67 = .ok (.ldc 127, 2) := by decide +kernel
theorem dX6_copy_69 : decode cX6_copy 69 = .ok (.ireturn, 1) := by decide +kernel
theorem dX6_copy_70 : decode cX6_copy 70 = .ok (.aload 6, 2) := by decide +kernel
theorem dX6_copy_72 : decode cX6_copy 72 = .ok (.iload_n 2, 1) := by decide +kernel
theorem dX6_copy_73 : decode cX6_copy 73 = .ok (.iload 5, 2) := by decide +kernel
theorem dX6_copy_75 : decode cX6_copy 75 = .ok (.invokevirtual 286, 3) := by decide +kernel
theorem dX6_copy_78 : decode cX6_copy 78 = .ok (.ifCond .eq 15, 3) := by decide +kernel
theorem dX6_copy_81 : decode cX6_copy 81 = .ok (.aload 7, 2) := by decide +kernel
theorem dX6_copy_83 : decode cX6_copy 83 = .ok (.iload 4, 2) := by decide +kernel
theorem dX6_copy_85 : decode cX6_copy 85 = .ok (.iload 5, 2) := by decide +kernel
theorem dX6_copy_87 : decode cX6_copy 87 = .ok (.invokevirtual 286, 3) := by decide +kernel
theorem dX6_copy_90 : decode cX6_copy 90 = .ok (.ifCond .ne 7, 3) := by decide +kernel
theorem dX6_copy_93 : decode cX6_copy 93 = .ok (.ldc_w 273, 3) := by decide +kernel
theorem dX6_copy_96 : decode cX6_copy 96 = .ok (.ireturn, 1) := by decide +kernel
theorem dX6_copy_97 : decode cX6_copy 97 = .ok (.aload 6, 2) := by decide +kernel
theorem dX6_copy_99 : decode cX6_copy 99 = .ok (.getfield 274, 3) := by decide +kernel
theorem dX6_copy_102 : decode cX6_copy 102 = .ok (.iload_n 2, 1) := by decide +kernel
theorem dX6_copy_103 : decode cX6_copy 103 = .ok (.aload 7, 2) := by decide +kernel
theorem dX6_copy_105 : decode cX6_copy 105 = .ok (.getfield 274, 3) := by decide +kernel
theorem dX6_copy_108 : decode cX6_copy 108 = .ok (.iload 4, 2) := by decide +kernel
theorem dX6_copy_110 : decode cX6_copy 110 = .ok (.iload 5, 2) := by decide +kernel
theorem dX6_copy_112 : decode cX6_copy 112 = .ok (.invokestatic 289, 3) := by decide +kernel
theorem dX6_copy_115 : decode cX6_copy 115 = .ok (.iload 5, 2) := by decide +kernel
theorem dX6_copy_117 : decode cX6_copy 117 = .ok (.ireturn, 1) := by decide +kernel
theorem dX6_lay_0 : decode cX6_lay 0 = .ok (.iload_n 1, 1) := by decide +kernel
theorem dX6_lay_1 : decode cX6_lay 1 = .ok (.invokestatic 295, 3) := by decide +kernel
theorem dX6_lay_4 : decode cX6_lay 4 = .ok (.ifCond .eq 12, 3) := by decide +kernel
theorem dX6_lay_7 : decode cX6_lay 7 = .ok (.iload_n 2, 1) := by decide +kernel
theorem dX6_lay_8 : decode cX6_lay 8 = .ok (.iconst 0, 1) := by decide +kernel
theorem dX6_lay_9 : decode cX6_lay 9 = .ok (.iconst 3, 1) := by decide +kernel
theorem dX6_lay_10 : decode cX6_lay 10 = .ok (.invokestatic 78, 3) := by decide +kernel
theorem dX6_lay_13 : decode cX6_lay 13 = .ok (.ifCond .ne 6, 3) := by decide +kernel
theorem dX6_lay_16 : decode cX6_lay 16 = .ok (.ldc 85, 2) := by decide +kernel
theorem dX6_lay_18 : decode cX6_lay 18 = .ok (.ireturn, 1) := by decide +kernel
theorem dX6_lay_19 : decode cX6_lay 19 = .ok (.iload_n 2, 1) := by decide +kernel
theorem dX6_lay_20 : decode cX6_lay 20 = .ok (.iconst 1, 1) := by decide +kernel
theorem dX6_lay_21 : decode cX6_lay 21 = .ok (.if_icmp .ne 11, 3) := by decide +kernel
theorem dX6_lay_24 : decode cX6_lay 24 = .ok (.aload_n 0, 1) := by decide +kernel
theorem dX6_lay_25 : decode cX6_lay 25 = .ok (.iload_n 3, 1) := by decide +kernel
theorem dX6_lay_26 : decode cX6_lay 26 = .ok (.invokevirtual 94, 3) := by decide +kernel
theorem dX6_lay_29 : decode cX6_lay 29 = .ok (.ifCond .eq 15, 3) := by decide +kernel
theorem dX6_lay_32 : decode cX6_lay 32 = .ok (.iload_n 2, 1) := by decide +kernel
theorem dX6_lay_33 : decode cX6_lay 33 = .ok (.iconst 2, 1) := by decide +kernel
theorem dX6_lay_34 : decode cX6_lay 34 = .ok (.if_icmp .ne 13, 3) := by decide +kernel
theorem dX6_lay_37 : decode cX6_lay 37 = .ok (.iload_n 3, 1) := by decide +kernel
theorem dX6_lay_38 : decode cX6_lay 38 = .ok (.invokestatic 215, 3) := by decide +kernel
theorem dX6_lay_41 : decode cX6_lay 41 = .ok (.ifCond .ne 6, 3) := by decide +kernel
theorem dX6_lay_44 : decode cX6_lay 44 = .ok (.ldc 85, 2) := by decide +kernel
theorem dX6_lay_46 : decode cX6_lay 46 = .ok (.ireturn, 1) := by decide +kernel
theorem dX6_lay_47 : decode cX6_lay 47 = .ok (.iload_n 2, 1) := by decide +kernel
theorem dX6_lay_48 : decode cX6_lay 48 = .ok (.iconst 2, 1) := by decide +kernel
theorem dX6_lay_49 : decode cX6_lay 49 = .ok (.if_icmp .ne 19, 3) := by decide +kernel
theorem dX6_lay_52 : decode cX6_lay 52 = .ok (.aload_n 0, 1) := by decide +kernel
theorem dX6_lay_53 : decode cX6_lay 53 = .ok (.getfield 51, 3) := by decide +kernel
theorem dX6_lay_56 : decode cX6_lay 56 = .ok (.iload_n 3, 1) := by decide +kernel
theorem dX6_lay_57 : decode cX6_lay 57 = .ok (.aaload, 1) := by decide +kernel
theorem dX6_lay_58 : decode cX6_lay 58 = .ok (.getfield 218, 3) := by decide +kernel
theorem dX6_lay_61 : decode cX6_lay 61 = .ok (.iconst (-1), 1) := by decide +kernel
theorem dX6_lay_62 : decode cX6_lay 62 = .ok (.if_icmp .ne 6, 3) := by decide +kernel
theorem dX6_lay_65 : decode cX6_lay 65 = .ok (.ldc 221, 2) := by decide +kernel
theorem dX6_lay_67 : decode cX6_lay 67 = .ok (.ireturn, 1) := by decide +kernel
theorem dX6_lay_68 : decode cX6_lay 68 = .ok (.aload_n 0, 1) := by decide +kernel
theorem dX6_lay_69 : decode cX6_lay 69 = .ok (.getfield 58, 3) := by decide +kernel
theorem dX6_lay_72 : decode cX6_lay 72 = .ok (.iload_n 1, 1) := by decide +kernel
theorem dX6_lay_73 : decode cX6_lay 73 = .ok (.aaload, 1) := by decide +kernel
theorem dX6_lay_74 : decode cX6_lay 74 = .ok (.astore 4, 2) := by decide +kernel
theorem dX6_lay_76 : decode cX6_lay 76 = .ok (.aload 4, 2) := by decide +kernel
theorem dX6_lay_78 : decode cX6_lay 78 = .ok (.getfield 298, 3) := by decide +kernel
theorem dX6_lay_81 : decode cX6_lay 81 = .ok (.istore 5, 2) := by decide +kernel
theorem dX6_lay_83 : decode cX6_lay 83 = .ok (.aload 4, 2) := by decide +kernel
theorem dX6_lay_85 : decode cX6_lay 85 = .ok (.iload_n 2, 1) := by decide +kernel
theorem dX6_lay_86 : decode cX6_lay 86 = .ok (.putfield 298, 3) := by decide +kernel
theorem dX6_lay_89 : decode cX6_lay 89 = .ok (.iload_n 2, 1) := by decide +kernel
theorem dX6_lay_90 : decode cX6_lay 90 = .ok (.iconst 1, 1) := by decide +kernel
theorem dX6_lay_91 : decode cX6_lay 91 = .ok (.if_icmp .ne 34, 3) := by decide +kernel
theorem dX6_lay_94 : decode cX6_lay 94 = .ok (.aload 4, 2) := by decide +kernel
theorem dX6_lay_96 : decode cX6_lay 96 = .ok (.aload_n 0, 1) := by decide +kernel
theorem dX6_lay_97 : decode cX6_lay 97 = .ok (.getfield 28, 3) := by decide +kernel
theorem dX6_lay_100 : decode cX6_lay 100 = .ok (.getfield 97, 3) := by decide +kernel
theorem dX6_lay_103 : decode cX6_lay 103 = .ok (.iload_n 3, 1) := by decide +kernel
theorem dX6_lay_104 : decode cX6_lay 104 = .ok (.iaload, 1) := by decide +kernel
theorem dX6_lay_105 : decode cX6_lay 105 = .ok (.putfield 301, 3) := by decide +kernel
theorem dX6_lay_108 : decode cX6_lay 108 = .ok (.aload 4, 2) := by decide +kernel
theorem dX6_lay_110 : decode cX6_lay 110 = .ok (.aload_n 0, 1) := by decide +kernel
theorem dX6_lay_111 : decode cX6_lay 111 = .ok (.getfield 28, 3) := by decide +kernel
theorem dX6_lay_114 : decode cX6_lay 114 = .ok (.getfield 100, 3) := by decide +kernel
theorem dX6_lay_117 : decode cX6_lay 117 = .ok (.iload_n 3, 1) := by decide +kernel
theorem dX6_lay_118 : decode cX6_lay 118 = .ok (.iaload, 1) := by decide +kernel
theorem dX6_lay_119 : decode cX6_lay 119 = .ok (.putfield 303, 3) := by decide +kernel
theorem dX6_lay_122 : decode cX6_lay 122 = .ok (.goto 31, 3) := by decide +kernel
theorem dX6_lay_125 : decode cX6_lay 125 = .ok (.iload_n 2, 1) := by decide +kernel
theorem dX6_lay_126 : decode cX6_lay 126 = .ok (.iconst 2, 1) := by decide +kernel
theorem dX6_lay_127 : decode cX6_lay 127 = .ok (.if_icmp .ne 20, 3) := by decide +kernel
theorem dX6_lay_130 : decode cX6_lay 130 = .ok (.aload 4, 2) := by decide +kernel
theorem dX6_lay_132 : decode cX6_lay 132 = .ok (.getfield 305, 3) := by decide +kernel
theorem dX6_lay_135 : decode cX6_lay 135 = .ok (.aload_n 0, 1) := by decide +kernel
theorem dX6_lay_136 : decode cX6_lay 136 = .ok (.getfield 51, 3) := by decide +kernel
theorem dX6_lay_139 : decode cX6_lay 139 = .ok (.iload_n 3, 1) := by decide +kernel
theorem dX6_lay_140 : decode cX6_lay 140 = .ok (.aaload, 1) := by decide +kernel
theorem dX6_lay_141 : decode cX6_lay 141 = .ok (.invokevirtual 309, 3) := by decide +kernel
theorem dX6_lay_144 : decode cX6_lay 144 = .ok (.goto 9, 3) := by decide +kernel
theorem dX6_lay_147 : decode cX6_lay 147 = .ok (.aload 4, 2) := by decide +kernel
theorem dX6_lay_149 : decode cX6_lay 149 = .ok (.iload_n 3, 1) := by decide +kernel
theorem dX6_lay_150 : decode cX6_lay 150 = .ok (.putfield 311, 3) := by decide +kernel
theorem dX6_lay_153 : decode cX6_lay 153 = .ok (.iload 5, 2) := by decide +kernel
theorem dX6_lay_155 : decode cX6_lay 155 = .ok (.ireturn, 1) := by decide +kernel
theorem dX6_ask_0 : decode cX6_ask 0 = .ok (.iload_n 1, 1) := by decide +kernel
theorem dX6_ask_1 : decode cX6_ask 1 = .ok (.invokestatic 295, 3) := by decide +kernel
theorem dX6_ask_4 : decode cX6_ask 4 = .ok (.ifCond .eq 10, 3) := by decide +kernel
theorem dX6_ask_7 : decode cX6_ask 7 = .ok (.iload_n 2, 1) := by decide +kernel
theorem dX6_ask_8 : decode cX6_ask 8 = .ok (.invokestatic 74, 3) := by decide +kernel
theorem dX6_ask_11 : decode cX6_ask 11 = .ok (.ifCond .ne 6, 3) := by decide +kernel
theorem dX6_ask_14 : decode cX6_ask 14 = .ok (.ldc 85, 2) := by decide +kernel
theorem dX6_ask_16 : decode cX6_ask 16 = .ok (.ireturn, 1) := by decide +kernel
theorem dX6_ask_17 : decode cX6_ask 17 = .ok (.aload_n 0, 1) := by decide +kernel
theorem dX6_ask_18 : decode cX6_ask 18 = .ok (.getfield 58, 3) := by decide +kernel
theorem dX6_ask_21 : decode cX6_ask 21 = .ok (.iload_n 1, 1) := by decide +kernel
theorem dX6_ask_22 : decode cX6_ask 22 = .ok (.aaload, 1) := by decide +kernel
theorem dX6_ask_23 : decode cX6_ask 23 = .ok (.astore_n 3, 1) := by decide +kernel
theorem dX6_ask_24 : decode cX6_ask 24 = .ok (.aload_n 3, 1) := by decide +kernel
theorem dX6_ask_25 : decode cX6_ask 25 = .ok (.getfield 298, 3) := by decide +kernel
theorem dX6_ask_28 : decode cX6_ask 28 = .ok (.ifCond .ne 6, 3) := by decide +kernel
theorem dX6_ask_31 : decode cX6_ask 31 = .ok (.ldc 221, 2) := by decide +kernel
theorem dX6_ask_33 : decode cX6_ask 33 = .ok (.ireturn, 1) := by decide +kernel
theorem dX6_ask_34 : decode cX6_ask 34 = .ok (.aload_n 3, 1) := by decide +kernel
theorem dX6_ask_35 : decode cX6_ask 35 = .ok (.getfield 298, 3) := by decide +kernel
theorem dX6_ask_38 : decode cX6_ask 38 = .ok (.iconst 1, 1) := by decide +kernel
theorem dX6_ask_39 : decode cX6_ask 39 = .ok (.if_icmp .ne 14, 3) := by decide +kernel
theorem dX6_ask_42 : decode cX6_ask 42 = .ok (.aload_n 3, 1) := by decide +kernel
theorem dX6_ask_43 : decode cX6_ask 43 = .ok (.getfield 301, 3) := by decide +kernel
theorem dX6_ask_46 : decode cX6_ask 46 = .ok (.iload_n 2, 1) := by decide +kernel
theorem dX6_ask_47 : decode cX6_ask 47 = .ok (.invokestatic 123, 3) := by decide +kernel
theorem dX6_ask_50 : decode cX6_ask 50 = .ok (.ifCond .ne 6, 3) := by decide +kernel
theorem dX6_ask_53 : decode cX6_ask 53 = .ok (.ldc 127, 2) := by decide +kernel
theorem dX6_ask_55 : decode cX6_ask 55 = .ok (.ireturn, 1) := by decide +kernel
theorem dX6_ask_56 : decode cX6_ask 56 = .ok (.aload_n 3, 1) := by decide +kernel
theorem dX6_ask_57 : decode cX6_ask 57 = .ok (.getfield 301, 3) := by decide +kernel
theorem dX6_ask_60 : decode cX6_ask 60 = .ok (.aload_n 3, 1) := by decide +kernel
theorem dX6_ask_61 : decode cX6_ask 61 = .ok (.getfield 303, 3) := by decide +kernel
theorem dX6_ask_64 : decode cX6_ask 64 = .ok (.invokestatic 119, 3) := by decide +kernel
theorem dX6_ask_67 : decode cX6_ask 67 = .ok (.ireturn, 1) := by decide +kernel
theorem dX6_item_0 : decode cX6_item 0 = .ok (.iload_n 1, 1) := by decide +kernel
theorem dX6_item_1 : decode cX6_item 1 = .ok (.invokestatic 295, 3) := by decide +kernel
theorem dX6_item_4 : decode cX6_item 4 = .ok (.ifCond .ne 6, 3) := by decide +kernel
theorem dX6_item_7 : decode cX6_item 7 = .ok (.ldc 85, 2) := by decide +kernel
theorem dX6_item_9 : decode cX6_item 9 = .ok (.ireturn, 1) := by decide +kernel
theorem dX6_item_10 : decode cX6_item 10 = .ok (.aload_n 0, 1) := by decide +kernel
theorem dX6_item_11 : decode cX6_item 11 = .ok (.getfield 58, 3) := by decide +kernel
theorem dX6_item_14 : decode cX6_item 14 = .ok (.iload_n 1, 1) := by decide +kernel
theorem dX6_item_15 : decode cX6_item 15 = .ok (.aaload, 1) := by decide +kernel
theorem dX6_item_16 : decode cX6_item 16 = .ok (.astore_n 3, 1) := by decide +kernel
theorem dX6_item_17 : decode cX6_item 17 = .ok (.aload_n 3, 1) := by decide +kernel
theorem dX6_item_18 : decode cX6_item 18 = .ok (.getfield 298, 3) := by decide +kernel
theorem dX6_item_21 : decode cX6_item 21 = .ok (.ifCond .ne 6, 3) := by decide +kernel
theorem dX6_item_24 : decode cX6_item 24 = .ok (.ldc 221, 2) := by decide +kernel
theorem dX6_item_26 : decode cX6_item 26 = .ok (.ireturn, 1) := by decide +kernel
theorem dX6_item_27 : decode cX6_item 27 = .ok (.aload_n 3, 1) := by decide +kernel
theorem dX6_item_28 : decode cX6_item 28 = .ok (.getfield 298, 3) := by decide +kernel
theorem dX6_item_31 : decode cX6_item 31 = .ok (.iconst 2, 1) := by decide +kernel
theorem dX6_item_32 : decode cX6_item 32 = .ok (.if_icmp .eq 6, 3) := by decide +kernel
theorem dX6_item_35 : decode cX6_item 35 = .ok (.ldc 127, 2) := by decide +kernel
theorem dX6_item_37 : decode cX6_item 37 = .ok (.ireturn, 1) := by decide +kernel
theorem dX6_item_38 : decode cX6_item 38 = .ok (.aload_n 3, 1) := by decide +kernel
theorem dX6_item_39 : decode cX6_item 39 = .ok (.getfield 305, 3) := by decide +kernel
theorem dX6_item_42 : decode cX6_item 42 = .ok (.iload_n 2, 1) := by decide +kernel
theorem dX6_item_43 : decode cX6_item 43 = .ok (.invokevirtual 270, 3) := by decide +kernel
theorem dX6_item_46 : decode cX6_item 46 = .ok (.ifCond .ne 7, 3) := by decide +kernel
theorem dX6_item_49 : decode cX6_item 49 = .ok (.ldc_w 273, 3) := by decide +kernel
theorem dX6_item_52 : decode cX6_item 52 = .ok (.ireturn, 1) := by decide +kernel
theorem dX6_item_53 : decode cX6_item 53 = .ok (.aload_n 3, 1) := by decide +kernel
theorem dX6_item_54 : decode cX6_item 54 = .ok (.getfield 305, 3) := by decide +kernel
theorem dX6_item_57 : decode cX6_item 57 = .ok (.iload_n 2, 1) := by decide +kernel
theorem dX6_item_58 : decode cX6_item 58 = .ok (.invokevirtual 280, 3) := by decide +kernel
theorem dX6_item_61 : decode cX6_item 61 = .ok (.ifCond .eq 15, 3) := by decide +kernel
theorem dX6_item_64 : decode cX6_item 64 = .ok (.aload_n 3, 1) := by decide +kernel
theorem dX6_item_65 : decode cX6_item 65 = .ok (.getfield 305, 3) := by decide +kernel
theorem dX6_item_68 : decode cX6_item 68 = .ok (.getfield 274, 3) := by decide +kernel
theorem dX6_item_71 : decode cX6_item 71 = .ok (.iload_n 2, 1) := by decide +kernel
theorem dX6_item_72 : decode cX6_item 72 = .ok (.iaload, 1) := by decide +kernel
theorem dX6_item_73 : decode cX6_item 73 = .ok (.goto 5, 3) := by decide +kernel
theorem dX6_item_76 : decode cX6_item 76 = .ok (.ldc 127, 2) := by decide +kernel
theorem dX6_item_78 : decode cX6_item 78 = .ok (.ireturn, 1) := by decide +kernel
theorem dX6_rest_0 : decode cX6_rest 0 = .ok (.iload_n 1, 1) := by decide +kernel
theorem dX6_rest_1 : decode cX6_rest 1 = .ok (.invokestatic 295, 3) := by decide +kernel
theorem dX6_rest_4 : decode cX6_rest 4 = .ok (.ifCond .ne 6, 3) := by decide +kernel
theorem dX6_rest_7 : decode cX6_rest 7 = .ok (.ldc 85, 2) := by decide +kernel
theorem dX6_rest_9 : decode cX6_rest 9 = .ok (.ireturn, 1) := by decide +kernel
theorem dX6_rest_10 : decode cX6_rest 10 = .ok (.aload_n 0, 1) := by decide +kernel
theorem dX6_rest_11 : decode cX6_rest 11 = .ok (.getfield 58, 3) := by decide +kernel
theorem dX6_rest_14 : decode cX6_rest 14 = .ok (.iload_n 1, 1) := by decide +kernel
theorem dX6_rest_15 : decode cX6_rest 15 = .ok (.aaload, 1) := by decide +kernel
theorem dX6_rest_16 : decode cX6_rest 16 = .ok (.astore_n 3, 1) := by decide +kernel
theorem dX6_rest_17 : decode cX6_rest 17 = .ok (.aload_n 3, 1) := by decide +kernel
theorem dX6_rest_18 : decode cX6_rest 18 = .ok (.getfield 298, 3) := by decide +kernel
theorem dX6_rest_21 : decode cX6_rest 21 = .ok (.ifCond .ne 6, 3) := by decide +kernel
theorem dX6_rest_24 : decode cX6_rest 24 = .ok (.ldc 221, 2) := by decide +kernel
theorem dX6_rest_26 : decode cX6_rest 26 = .ok (.ireturn, 1) := by decide +kernel
theorem dX6_rest_27 : decode cX6_rest 27 = .ok (.aload_n 3, 1) := by decide +kernel
theorem dX6_rest_28 : decode cX6_rest 28 = .ok (.getfield 298, 3) := by decide +kernel
theorem dX6_rest_31 : decode cX6_rest 31 = .ok (.iconst 3, 1) := by decide +kernel
theorem dX6_rest_32 : decode cX6_rest 32 = .ok (.if_icmp .eq 6, 3) := by decide +kernel
theorem dX6_rest_35 : decode cX6_rest 35 = .ok (.ldc 127, 2) := by decide +kernel
theorem dX6_rest_37 : decode cX6_rest 37 = .ok (.ireturn, 1) := by decide +kernel
theorem dX6_rest_38 : decode cX6_rest 38 = .ok (.iload_n 2, 1) := by decide +kernel
theorem dX6_rest_39 : decode cX6_rest 39 = .ok (.ifCond .ne 8, 3) := by decide +kernel
theorem dX6_rest_42 : decode cX6_rest 42 = .ok (.ldc 156, 2) := by decide +kernel
theorem dX6_rest_44 : decode cX6_rest 44 = .ok (.goto 9, 3) := by decide +kernel
theorem dX6_rest_47 : decode cX6_rest 47 = .ok (.aload_n 3, 1) := by decide +kernel
theorem dX6_rest_48 : decode cX6_rest 48 = .ok (.getfield 311, 3) := by decide +kernel
theorem dX6_rest_51 : decode cX6_rest 51 = .ok (.iload_n 2, 1) := by decide +kernel
theorem dX6_rest_52 : decode cX6_rest 52 = .ok (.irem, 1) := by decide +kernel
theorem dX6_rest_53 : decode cX6_rest 53 = .ok (.ireturn, 1) := by decide +kernel
theorem dX6_tell_0 : decode cX6_tell 0 = .ok (.aload_n 0, 1) := by decide +kernel
theorem dX6_tell_1 : decode cX6_tell 1 = .ok (.getfield 66, 3) := by decide +kernel
theorem dX6_tell_4 : decode cX6_tell 4 = .ok (.bipush 60, 2) := by decide +kernel
theorem dX6_tell_6 : decode cX6_tell 6 = .ok (.if_icmp .lt 6, 3) := by decide +kernel
theorem dX6_tell_9 : decode cX6_tell 9 = .ok (.ldc 89, 2) := by decide +kernel
theorem dX6_tell_11 : decode cX6_tell 11 = .ok (.ireturn, 1) := by decide +kernel
theorem dX6_tell_12 : decode cX6_tell 12 = .ok (.aload_n 0, 1) := by decide +kernel
theorem dX6_tell_13 : decode cX6_tell 13 = .ok (.getfield 63, 3) := by decide +kernel
theorem dX6_tell_16 : decode cX6_tell 16 = .ok (.aload_n 0, 1) := by decide +kernel
theorem dX6_tell_17 : decode cX6_tell 17 = .ok (.getfield 66, 3) := by decide +kernel
theorem dX6_tell_20 : decode cX6_tell 20 = .ok (.iload_n 1, 1) := by decide +kernel
theorem dX6_tell_21 : decode cX6_tell 21 = .ok (.iastore, 1) := by decide +kernel
theorem dX6_tell_22 : decode cX6_tell 22 = .ok (.aload_n 0, 1) := by decide +kernel
theorem dX6_tell_23 : decode cX6_tell 23 = .ok (.dup, 1) := by decide +kernel
theorem dX6_tell_24 : decode cX6_tell 24 = .ok (.getfield 66, 3) := by decide +kernel
theorem dX6_tell_27 : decode cX6_tell 27 = .ok (.iconst 1, 1) := by decide +kernel
theorem dX6_tell_28 : decode cX6_tell 28 = .ok (.iadd, 1) := by decide +kernel
theorem dX6_tell_29 : decode cX6_tell 29 = .ok (.putfield 66, 3) := by decide +kernel
theorem dX6_tell_32 : decode cX6_tell 32 = .ok (.aload_n 0, 1) := by decide +kernel
theorem dX6_tell_33 : decode cX6_tell 33 = .ok (.getfield 66, 3) := by decide +kernel
theorem dX6_tell_36 : decode cX6_tell 36 = .ok (.ireturn, 1) := by decide +kernel
theorem dX6_check_0 : decode cX6_check 0 = .ok (.aload_n 0, 1) := by decide +kernel
theorem dX6_check_1 : decode cX6_check 1 = .ok (.getfield 66, 3) := by decide +kernel
theorem dX6_check_4 : decode cX6_check 4 = .ok (.istore_n 2, 1) := by decide +kernel
theorem dX6_check_5 : decode cX6_check 5 = .ok (.aload_n 0, 1) := by decide +kernel
theorem dX6_check_6 : decode cX6_check 6 = .ok (.iconst 0, 1) := by decide +kernel
theorem dX6_check_7 : decode cX6_check 7 = .ok (.putfield 66, 3) := by decide +kernel
theorem dX6_check_10 : decode cX6_check 10 = .ok (.iload_n 1, 1) := by decide +kernel
theorem dX6_check_11 : decode cX6_check 11 = .ok (.iconst 1, 1) := by decide +kernel
theorem dX6_check_12 : decode cX6_check 12 = .ok (.bipush 30, 2) := by decide +kernel
theorem dX6_check_14 : decode cX6_check 14 = .ok (.invokestatic 78, 3) := by decide +kernel
theorem dX6_check_17 : decode cX6_check 17 = .ok (.ifCond .ne 6, 3) := by decide +kernel
theorem dX6_check_20 : decode cX6_check 20 = .ok (.ldc 85, 2) := by decide +kernel
theorem dX6_check_22 : decode cX6_check 22 = .ok (.ireturn, 1) := by decide +kernel
theorem dX6_check_23 : decode cX6_check 23 = .ok (.aload_n 0, 1) := by decide +kernel
theorem dX6_check_24 : decode cX6_check 24 = .ok (.getfield 70, 3) := by decide +kernel
theorem dX6_check_27 : decode cX6_check 27 = .ok (.ifCond .ne 6, 3) := by decide +kernel
theorem dX6_check_30 : decode cX6_check 30 = .ok (.ldc 156, 2) := by decide +kernel
theorem dX6_check_32 : decode cX6_check 32 = .ok (.ireturn, 1) := by decide +kernel
theorem dX6_check_33 : decode cX6_check 33 = .ok (.aload_n 0, 1) := by decide +kernel
theorem dX6_check_34 : decode cX6_check 34 = .ok (.getfield 35, 3) := by decide +kernel
theorem dX6_check_37 : decode cX6_check 37 = .ok (.aload_n 0, 1) := by decide +kernel
theorem dX6_check_38 : decode cX6_check 38 = .ok (.getfield 32, 3) := by decide +kernel
theorem dX6_check_41 : decode cX6_check 41 = .ok (.invokevirtual 205, 3) := by decide +kernel
theorem dX6_check_44 : decode cX6_check 44 = .ok (.iconst 2, 1) := by decide +kernel
theorem dX6_check_45 : decode cX6_check 45 = .ok (.aload_n 0, 1) := by decide +kernel
theorem dX6_check_46 : decode cX6_check 46 = .ok (.getfield 32, 3) := by decide +kernel
theorem dX6_check_49 : decode cX6_check 49 = .ok (.iload_n 1, 1) := by decide +kernel
theorem dX6_check_50 : decode cX6_check 50 = .ok (.invokevirtual 164, 3) := by decide +kernel
theorem dX6_check_53 : decode cX6_check 53 = .ok (.imul, 1) := by decide +kernel
theorem dX6_check_54 : decode cX6_check 54 = .ok (.istore_n 3, 1) := by decide +kernel
theorem dX6_check_55 : decode cX6_check 55 = .ok (.iconst 0, 1) := by decide +kernel
theorem dX6_check_56 : decode cX6_check 56 = .ok (.istore 4, 2) := by decide +kernel
theorem dX6_check_58 : decode cX6_check 58 = .ok (.iload 4, 2) := by decide +kernel
theorem dX6_check_60 : decode cX6_check 60 = .ok (.iload_n 3, 1) := by decide +kernel
theorem dX6_check_61 : decode cX6_check 61 = .ok (.if_icmp .ge 83, 3) := by decide +kernel
theorem dX6_check_64 : decode cX6_check 64 = .ok (.iload 4, 2) := by decide +kernel
theorem dX6_check_66 : decode cX6_check 66 = .ok (.iconst 2, 1) := by decide +kernel
theorem dX6_check_67 : decode cX6_check 67 = .ok (.irem, 1) := by decide +kernel
theorem dX6_check_68 : decode cX6_check 68 = .ok (.ifCond .ne 7, 3) := by decide +kernel
theorem dX6_check_71 : decode cX6_check 71 = .ok (.iconst 1, 1) := by decide +kernel
theorem dX6_check_72 : decode cX6_check 72 = .ok (.goto 4, 3) := by decide +kernel
theorem dX6_check_75 : decode cX6_check 75 = .ok (.iconst 0, 1) := by decide +kernel
theorem dX6_check_76 : decode cX6_check 76 = .ok (.istore 5, 2) := by decide +kernel
theorem dX6_check_78 : decode cX6_check 78 = .ok (.iload 5, 2) := by decide +kernel
theorem dX6_check_80 : decode cX6_check 80 = .ok (.ifCond .eq 11, 3) := by decide +kernel
theorem dX6_check_83 : decode cX6_check 83 = .ok (.aload_n 0, 1) := by decide +kernel
theorem dX6_check_84 : decode cX6_check 84 = .ok (.getfield 35, 3) := by decide +kernel
theorem dX6_check_87 : decode cX6_check 87 = .ok (.iconst 1, 1) := by decide +kernel
theorem dX6_check_88 : decode cX6_check 88 = .ok (.invokevirtual 167, 3) := by decide +kernel
theorem dX6_check_91 : decode cX6_check 91 = .ok (.iload 5, 2) := by decide +kernel
theorem dX6_check_93 : decode cX6_check 93 = .ok (.ifCond .eq 13, 3) := by decide +kernel
theorem dX6_check_96 : decode cX6_check 96 = .ok (.aload_n 0, 1) := by decide +kernel
theorem dX6_check_97 : decode cX6_check 97 = .ok (.getfield 35, 3) := by decide +kernel
theorem dX6_check_100 : decode cX6_check 100 = .ok (.getfield 161, 3) := by decide +kernel
theorem dX6_check_103 : decode cX6_check 103 = .ok (.goto 10, 3) := by decide +kernel
theorem dX6_check_106 : decode cX6_check 106 = .ok (.aload_n 0, 1) := by decide +kernel
theorem dX6_check_107 : decode cX6_check 107 = .ok (.getfield 35, 3) := by decide +kernel
theorem dX6_check_110 : decode cX6_check 110 = .ok (.invokevirtual 314, 3) := by decide +kernel
theorem dX6_check_113 : decode cX6_check 113 = .ok (.istore 6, 2) := by decide +kernel
theorem dX6_check_115 : decode cX6_check 115 = .ok (.iload 4, 2) := by decide +kernel
theorem dX6_check_117 : decode cX6_check 117 = .ok (.iload_n 2, 1) := by decide +kernel
theorem dX6_check_118 : decode cX6_check 118 = .ok (.if_icmp .ge 15, 3) := by decide +kernel
theorem dX6_check_121 : decode cX6_check 121 = .ok (.aload_n 0, 1) := by decide +kernel
theorem dX6_check_122 : decode cX6_check 122 = .ok (.getfield 63, 3) := by decide +kernel
theorem dX6_check_125 : decode cX6_check 125 = .ok (.iload 4, 2) := by decide +kernel
theorem dX6_check_127 : decode cX6_check 127 = .ok (.iaload, 1) := by decide +kernel
theorem dX6_check_128 : decode cX6_check 128 = .ok (.iload 6, 2) := by decide +kernel
theorem dX6_check_130 : decode cX6_check 130 = .ok (.if_icmp .eq 8, 3) := by decide +kernel
theorem dX6_check_133 : decode cX6_check 133 = .ok (.iconst 1, 1) := by decide +kernel
theorem dX6_check_134 : decode cX6_check 134 = .ok (.iload 4, 2) := by decide +kernel
theorem dX6_check_136 : decode cX6_check 136 = .ok (.iadd, 1) := by decide +kernel
theorem dX6_check_137 : decode cX6_check 137 = .ok (.ireturn, 1) := by decide +kernel
theorem dX6_check_138 : decode cX6_check 138 = .ok (.iinc 4 1, 3) := by decide +kernel
theorem dX6_check_141 : decode cX6_check 141 = .ok (.goto (-83), 3) := by decide +kernel
theorem dX6_check_144 : decode cX6_check 144 = .ok (.iload_n 2, 1) := by decide +kernel
theorem dX6_check_145 : decode cX6_check 145 = .ok (.iload_n 3, 1) := by decide +kernel
theorem dX6_check_146 : decode cX6_check 146 = .ok (.if_icmp .le 9, 3) := by decide +kernel
theorem dX6_check_149 : decode cX6_check 149 = .ok (.iconst 1, 1) := by decide +kernel
theorem dX6_check_150 : decode cX6_check 150 = .ok (.iload_n 3, 1) := by decide +kernel
theorem dX6_check_151 : decode cX6_check 151 = .ok (.iadd, 1) := by decide +kernel
theorem dX6_check_152 : decode cX6_check 152 = .ok (.goto 4, 3) := by decide +kernel
theorem dX6_check_155 : decode cX6_check 155 = .ok (.iconst 0, 1) := by decide +kernel
theorem dX6_check_156 : decode cX6_check 156 = .ok (.ireturn, 1) := by decide +kernel
theorem dX6_keep_0 : decode cX6_keep 0 = .ok (.aload_n 0, 1) := by decide +kernel
theorem dX6_keep_1 : decode cX6_keep 1 = .ok (.getfield 32, 3) := by decide +kernel
theorem dX6_keep_4 : decode cX6_keep 4 = .ok (.aload_n 0, 1) := by decide +kernel
theorem dX6_keep_5 : decode cX6_keep 5 = .ok (.getfield 28, 3) := by decide +kernel
theorem dX6_keep_8 : decode cX6_keep 8 = .ok (.invokevirtual 205, 3) := by decide +kernel
theorem dX6_keep_11 : decode cX6_keep 11 = .ok (.aload_n 0, 1) := by decide +kernel
theorem dX6_keep_12 : decode cX6_keep 12 = .ok (.iconst 1, 1) := by decide +kernel
theorem dX6_keep_13 : decode cX6_keep 13 = .ok (.putfield 70, 3) := by decide +kernel
theorem dX6_keep_16 : decode cX6_keep 16 = .ok (.aload_n 0, 1) := by decide +kernel
theorem dX6_keep_17 : decode cX6_keep 17 = .ok (.getfield 28, 3) := by decide +kernel
theorem dX6_keep_20 : decode cX6_keep 20 = .ok (.getfield 86, 3) := by decide +kernel
theorem dX6_keep_23 : decode cX6_keep 23 = .ok (.ireturn, 1) := by decide +kernel
theorem dX6_back_0 : decode cX6_back 0 = .ok (.aload_n 0, 1) := by decide +kernel
theorem dX6_back_1 : decode cX6_back 1 = .ok (.getfield 70, 3) := by decide +kernel
theorem dX6_back_4 : decode cX6_back 4 = .ok (.ifCond .ne 6, 3) := by decide +kernel
theorem dX6_back_7 : decode cX6_back 7 = .ok (.ldc 156, 2) := by decide +kernel
theorem dX6_back_9 : decode cX6_back 9 = .ok (.ireturn, 1) := by decide +kernel
theorem dX6_back_10 : decode cX6_back 10 = .ok (.aload_n 0, 1) := by decide +kernel
theorem dX6_back_11 : decode cX6_back 11 = .ok (.getfield 28, 3) := by decide +kernel
theorem dX6_back_14 : decode cX6_back 14 = .ok (.aload_n 0, 1) := by decide +kernel
theorem dX6_back_15 : decode cX6_back 15 = .ok (.getfield 32, 3) := by decide +kernel
theorem dX6_back_18 : decode cX6_back 18 = .ok (.invokevirtual 205, 3) := by decide +kernel
theorem dX6_back_21 : decode cX6_back 21 = .ok (.aload_n 0, 1) := by decide +kernel
theorem dX6_back_22 : decode cX6_back 22 = .ok (.getfield 28, 3) := by decide +kernel
theorem dX6_back_25 : decode cX6_back 25 = .ok (.getfield 86, 3) := by decide +kernel
theorem dX6_back_28 : decode cX6_back 28 = .ok (.ireturn, 1) := by decide +kernel
theorem dX6_count_0 : decode cX6_count 0 = .ok (.iload_n 1, 1) := by decide +kernel
theorem dX6_count_1 : decode cX6_count 1 = .ok (.tableswitch 108 0 7 #[47, 55, 63, 71, 79, 87, 92, 100], 47) := by decide +kernel
theorem dX6_count_48 : decode cX6_count 48 = .ok (.aload_n 0, 1) := by decide +kernel
theorem dX6_count_49 : decode cX6_count 49 = .ok (.getfield 28, 3) := by decide +kernel
theorem dX6_count_52 : decode cX6_count 52 = .ok (.getfield 86, 3) := by decide +kernel
theorem dX6_count_55 : decode cX6_count 55 = .ok (.ireturn, 1) := by decide +kernel
theorem dX6_count_56 : decode cX6_count 56 = .ok (.aload_n 0, 1) := by decide +kernel
theorem dX6_count_57 : decode cX6_count 57 = .ok (.getfield 28, 3) := by decide +kernel
theorem dX6_count_60 : decode cX6_count 60 = .ok (.getfield 317, 3) := by decide +kernel
theorem dX6_count_63 : decode cX6_count 63 = .ok (.ireturn, 1) := by decide +kernel
theorem dX6_count_64 : decode cX6_count 64 = .ok (.aload_n 0, 1) := by decide +kernel
theorem dX6_count_65 : decode cX6_count 65 = .ok (.getfield 28, 3) := by decide +kernel
theorem dX6_count_68 : decode cX6_count 68 = .ok (.invokevirtual 314, 3) := by decide +kernel
theorem dX6_count_71 : decode cX6_count 71 = .ok (.ireturn, 1) := by decide +kernel
theorem dX6_count_72 : decode cX6_count 72 = .ok (.aload_n 0, 1) := by decide +kernel
theorem dX6_count_73 : decode cX6_count 73 = .ok (.getfield 28, 3) := by decide +kernel
theorem dX6_count_76 : decode cX6_count 76 = .ok (.invokevirtual 212, 3) := by decide +kernel
theorem dX6_count_79 : decode cX6_count 79 = .ok (.ireturn, 1) := by decide +kernel
theorem dX6_count_80 : decode cX6_count 80 = .ok (.aload_n 0, 1) := by decide +kernel
theorem dX6_count_81 : decode cX6_count 81 = .ok (.getfield 28, 3) := by decide +kernel
theorem dX6_count_84 : decode cX6_count 84 = .ok (.getfield 250, 3) := by decide +kernel
theorem dX6_count_87 : decode cX6_count 87 = .ok (.ireturn, 1) := by decide +kernel
theorem dX6_count_88 : decode cX6_count 88 = .ok (.aload_n 0, 1) := by decide +kernel
theorem dX6_count_89 : decode cX6_count 89 = .ok (.getfield 66, 3) := by decide +kernel
theorem dX6_count_92 : decode cX6_count 92 = .ok (.ireturn, 1) := by decide +kernel
theorem dX6_count_93 : decode cX6_count 93 = .ok (.aload_n 0, 1) := by decide +kernel
theorem dX6_count_94 : decode cX6_count 94 = .ok (.getfield 19, 3) := by decide +kernel
theorem dX6_count_97 : decode cX6_count 97 = .ok (.getfield 237, 3) := by decide +kernel
theorem dX6_count_100 : decode cX6_count 100 = .ok (.ireturn, 1) := by decide +kernel
theorem dX6_count_101 : decode cX6_count 101 = .ok (.aload_n 0, 1) := by decide +kernel
theorem dX6_count_102 : decode cX6_count 102 = .ok (.getfield 28, 3) := by decide +kernel
theorem dX6_count_105 : decode cX6_count 105 = .ok (.getfield 153, 3) := by decide +kernel
theorem dX6_count_108 : decode cX6_count 108 = .ok (.ireturn, 1) := by decide +kernel
theorem dX6_count_109 : decode cX6_count 109 = .ok (.ldc 85, 2) := by decide +kernel
theorem dX6_count_111 : decode cX6_count 111 = .ok (.ireturn, 1) := by decide +kernel
theorem dX6_isDay_0 : decode cX6_isDay 0 = .ok (.iload_n 1, 1) := by decide +kernel
theorem dX6_isDay_1 : decode cX6_isDay 1 = .ok (.iconst 0, 1) := by decide +kernel
theorem dX6_isDay_2 : decode cX6_isDay 2 = .ok (.aload_n 0, 1) := by decide +kernel
theorem dX6_isDay_3 : decode cX6_isDay 3 = .ok (.getfield 28, 3) := by decide +kernel
theorem dX6_isDay_6 : decode cX6_isDay 6 = .ok (.getfield 86, 3) := by decide +kernel
theorem dX6_isDay_9 : decode cX6_isDay 9 = .ok (.iconst 1, 1) := by decide +kernel
theorem dX6_isDay_10 : decode cX6_isDay 10 = .ok (.isub, 1) := by decide +kernel
theorem dX6_isDay_11 : decode cX6_isDay 11 = .ok (.invokestatic 78, 3) := by decide +kernel
theorem dX6_isDay_14 : decode cX6_isDay 14 = .ok (.ireturn, 1) := by decide +kernel
theorem dX6_isOne_0 : decode cX6_isOne 0 = .ok (.iload_n 0, 1) := by decide +kernel
theorem dX6_isOne_1 : decode cX6_isOne 1 = .ok (.iconst 0, 1) := by decide +kernel
theorem dX6_isOne_2 : decode cX6_isOne 2 = .ok (.iconst 5, 1) := by decide +kernel
theorem dX6_isOne_3 : decode cX6_isOne 3 = .ok (.invokestatic 78, 3) := by decide +kernel
theorem dX6_isOne_6 : decode cX6_isOne 6 = .ok (.ireturn, 1) := by decide +kernel
theorem dX6_isKind_0 : decode cX6_isKind 0 = .ok (.iload_n 0, 1) := by decide +kernel
theorem dX6_isKind_1 : decode cX6_isKind 1 = .ok (.iconst 0, 1) := by decide +kernel
theorem dX6_isKind_2 : decode cX6_isKind 2 = .ok (.iconst 5, 1) := by decide +kernel
theorem dX6_isKind_3 : decode cX6_isKind 3 = .ok (.invokestatic 78, 3) := by decide +kernel
theorem dX6_isKind_6 : decode cX6_isKind 6 = .ok (.ireturn, 1) := by decide +kernel
theorem dX6_isSheet_0 : decode cX6_isSheet 0 = .ok (.iload_n 0, 1) := by decide +kernel
theorem dX6_isSheet_1 : decode cX6_isSheet 1 = .ok (.iconst 0, 1) := by decide +kernel
theorem dX6_isSheet_2 : decode cX6_isSheet 2 = .ok (.iconst 3, 1) := by decide +kernel
theorem dX6_isSheet_3 : decode cX6_isSheet 3 = .ok (.invokestatic 78, 3) := by decide +kernel
theorem dX6_isSheet_6 : decode cX6_isSheet 6 = .ok (.ireturn, 1) := by decide +kernel
theorem dX6_isSlot_0 : decode cX6_isSlot 0 = .ok (.iload_n 0, 1) := by decide +kernel
theorem dX6_isSlot_1 : decode cX6_isSlot 1 = .ok (.iconst 0, 1) := by decide +kernel
theorem dX6_isSlot_2 : decode cX6_isSlot 2 = .ok (.iconst 4, 1) := by decide +kernel
theorem dX6_isSlot_3 : decode cX6_isSlot 3 = .ok (.invokestatic 78, 3) := by decide +kernel
theorem dX6_isSlot_6 : decode cX6_isSlot 6 = .ok (.ireturn, 1) := by decide +kernel
theorem dX6_within_0 : decode cX6_within 0 = .ok (.iload_n 0, 1) := by decide +kernel
theorem dX6_within_1 : decode cX6_within 1 = .ok (.iload_n 1, 1) := by decide +kernel
theorem dX6_within_2 : decode cX6_within 2 = .ok (.if_icmp .lt 12, 3) := by decide +kernel
theorem dX6_within_5 : decode cX6_within 5 = .ok (.iload_n 0, 1) := by decide +kernel
theorem dX6_within_6 : decode cX6_within 6 = .ok (.iload_n 2, 1) := by decide +kernel
theorem dX6_within_7 : decode cX6_within 7 = .ok (.if_icmp .gt 7, 3) := by decide +kernel
theorem dX6_within_10 : decode cX6_within 10 = .ok (.iconst 1, 1) := by decide +kernel
theorem dX6_within_11 : decode cX6_within 11 = .ok (.goto 4, 3) := by decide +kernel
theorem dX6_within_14 : decode cX6_within 14 = .ok (.iconst 0, 1) := by decide +kernel
theorem dX6_within_15 : decode cX6_within 15 = .ok (.ireturn, 1) := by decide +kernel
theorem dX6_held_0 : decode cX6_held 0 = .ok (.iload_n 1, 1) := by decide +kernel
theorem dX6_held_1 : decode cX6_held 1 = .ok (.iload_n 2, 1) := by decide +kernel
theorem dX6_held_2 : decode cX6_held 2 = .ok (.iload_n 0, 1) := by decide +kernel
theorem dX6_held_3 : decode cX6_held 3 = .ok (.invokestatic 145, 3) := by decide +kernel
theorem dX6_held_6 : decode cX6_held 6 = .ok (.invokestatic 320, 3) := by decide +kernel
theorem dX6_held_9 : decode cX6_held 9 = .ok (.ireturn, 1) := by decide +kernel
theorem dX6_exchange_0 : decode cX6_exchange 0 = .ok (.aload_n 0, 1) := by decide +kernel
theorem dX6_exchange_1 : decode cX6_exchange 1 = .ok (.iload_n 1, 1) := by decide +kernel
theorem dX6_exchange_2 : decode cX6_exchange 2 = .ok (.iaload, 1) := by decide +kernel
theorem dX6_exchange_3 : decode cX6_exchange 3 = .ok (.istore_n 3, 1) := by decide +kernel
theorem dX6_exchange_4 : decode cX6_exchange 4 = .ok (.aload_n 0, 1) := by decide +kernel
theorem dX6_exchange_5 : decode cX6_exchange 5 = .ok (.iload_n 1, 1) := by decide +kernel
theorem dX6_exchange_6 : decode cX6_exchange 6 = .ok (.iload_n 2, 1) := by decide +kernel
theorem dX6_exchange_7 : decode cX6_exchange 7 = .ok (.iastore, 1) := by decide +kernel
theorem dX6_exchange_8 : decode cX6_exchange 8 = .ok (.iload_n 3, 1) := by decide +kernel
theorem dX6_exchange_9 : decode cX6_exchange 9 = .ok (.ireturn, 1) := by decide +kernel
theorem dX6_sumOver_0 : decode cX6_sumOver 0 = .ok (.iconst 0, 1) := by decide +kernel
theorem dX6_sumOver_1 : decode cX6_sumOver 1 = .ok (.istore_n 2, 1) := by decide +kernel
theorem dX6_sumOver_2 : decode cX6_sumOver 2 = .ok (.iconst 0, 1) := by decide +kernel
theorem dX6_sumOver_3 : decode cX6_sumOver 3 = .ok (.istore_n 3, 1) := by decide +kernel
theorem dX6_sumOver_4 : decode cX6_sumOver 4 = .ok (.iload_n 3, 1) := by decide +kernel
theorem dX6_sumOver_5 : decode cX6_sumOver 5 = .ok (.aload_n 0, 1) := by decide +kernel
theorem dX6_sumOver_6 : decode cX6_sumOver 6 = .ok (.arraylength, 1) := by decide +kernel
theorem dX6_sumOver_7 : decode cX6_sumOver 7 = .ok (.if_icmp .ge 23, 3) := by decide +kernel
theorem dX6_sumOver_10 : decode cX6_sumOver 10 = .ok (.iload_n 1, 1) := by decide +kernel
theorem dX6_sumOver_11 : decode cX6_sumOver 11 = .ok (.iload_n 3, 1) := by decide +kernel
theorem dX6_sumOver_12 : decode cX6_sumOver 12 = .ok (.ishr, 1) := by decide +kernel
theorem dX6_sumOver_13 : decode cX6_sumOver 13 = .ok (.iconst 1, 1) := by decide +kernel
theorem dX6_sumOver_14 : decode cX6_sumOver 14 = .ok (.iand, 1) := by decide +kernel
theorem dX6_sumOver_15 : decode cX6_sumOver 15 = .ok (.ifCond .eq 9, 3) := by decide +kernel
theorem dX6_sumOver_18 : decode cX6_sumOver 18 = .ok (.iload_n 2, 1) := by decide +kernel
theorem dX6_sumOver_19 : decode cX6_sumOver 19 = .ok (.aload_n 0, 1) := by decide +kernel
theorem dX6_sumOver_20 : decode cX6_sumOver 20 = .ok (.iload_n 3, 1) := by decide +kernel
theorem dX6_sumOver_21 : decode cX6_sumOver 21 = .ok (.iaload, 1) := by decide +kernel
theorem dX6_sumOver_22 : decode cX6_sumOver 22 = .ok (.iadd, 1) := by decide +kernel
theorem dX6_sumOver_23 : decode cX6_sumOver 23 = .ok (.istore_n 2, 1) := by decide +kernel
theorem dX6_sumOver_24 : decode cX6_sumOver 24 = .ok (.iinc 3 1, 3) := by decide +kernel
theorem dX6_sumOver_27 : decode cX6_sumOver 27 = .ok (.goto (-23), 3) := by decide +kernel
theorem dX6_sumOver_30 : decode cX6_sumOver 30 = .ok (.iload_n 2, 1) := by decide +kernel
theorem dX6_sumOver_31 : decode cX6_sumOver 31 = .ok (.ireturn, 1) := by decide +kernel
theorem dX6_isUnder_0 : decode cX6_isUnder 0 = .ok (.iload_n 0, 1) := by decide +kernel
theorem dX6_isUnder_1 : decode cX6_isUnder 1 = .ok (.istore_n 2, 1) := by decide +kernel
theorem dX6_isUnder_2 : decode cX6_isUnder 2 = .ok (.iconst 0, 1) := by decide +kernel
theorem dX6_isUnder_3 : decode cX6_isUnder 3 = .ok (.istore_n 3, 1) := by decide +kernel
theorem dX6_isUnder_4 : decode cX6_isUnder 4 = .ok (.iload_n 3, 1) := by decide +kernel
theorem dX6_isUnder_5 : decode cX6_isUnder 5 = .ok (.bipush 6, 2) := by decide +kernel
theorem dX6_isUnder_7 : decode cX6_isUnder 7 = .ok (.if_icmp .ge 26, 3) := by decide +kernel
theorem dX6_isUnder_10 : decode cX6_isUnder 10 = .ok (.iload_n 2, 1) := by decide +kernel
theorem dX6_isUnder_11 : decode cX6_isUnder 11 = .ok (.ifCond .lt 22, 3) := by decide +kernel
theorem dX6_isUnder_14 : decode cX6_isUnder 14 = .ok (.iload_n 2, 1) := by decide +kernel
theorem dX6_isUnder_15 : decode cX6_isUnder 15 = .ok (.iload_n 1, 1) := by decide +kernel
theorem dX6_isUnder_16 : decode cX6_isUnder 16 = .ok (.if_icmp .ne 5, 3) := by decide +kernel
theorem dX6_isUnder_19 : decode cX6_isUnder 19 = .ok (.iconst 1, 1) := by decide +kernel
theorem dX6_isUnder_20 : decode cX6_isUnder 20 = .ok (.ireturn, 1) := by decide +kernel
theorem dX6_isUnder_21 : decode cX6_isUnder 21 = .ok (.getstatic 323, 3) := by decide +kernel
theorem dX6_isUnder_24 : decode cX6_isUnder 24 = .ok (.iload_n 2, 1) := by decide +kernel
theorem dX6_isUnder_25 : decode cX6_isUnder 25 = .ok (.iaload, 1) := by decide +kernel
theorem dX6_isUnder_26 : decode cX6_isUnder 26 = .ok (.istore_n 2, 1) := by decide +kernel
theorem dX6_isUnder_27 : decode cX6_isUnder 27 = .ok (.iinc 3 1, 3) := by decide +kernel
theorem dX6_isUnder_30 : decode cX6_isUnder 30 = .ok (.goto (-26), 3) := by decide +kernel
theorem dX6_isUnder_33 : decode cX6_isUnder 33 = .ok (.iconst 0, 1) := by decide +kernel
theorem dX6_isUnder_34 : decode cX6_isUnder 34 = .ok (.ireturn, 1) := by decide +kernel
theorem dX6_worthOf_0 : decode cX6_worthOf 0 = .ok (.iload_n 0, 1) := by decide +kernel
theorem dX6_worthOf_1 : decode cX6_worthOf 1 = .ok (.tableswitch 62 1 5 #[35, 47, 40, 52, 59], 35) := by decide +kernel
theorem dX6_worthOf_36 : decode cX6_worthOf 36 = .ok (.iload_n 1, 1) := by decide +kernel
theorem dX6_worthOf_37 : decode cX6_worthOf 37 = .ok (.bipush 7, 2) := by decide +kernel
theorem dX6_worthOf_39 : decode cX6_worthOf 39 = .ok (.iadd, 1) := by decide +kernel
theorem dX6_worthOf_40 : decode cX6_worthOf 40 = .ok (.ireturn, 1) := by decide +kernel
theorem dX6_worthOf_41 : decode cX6_worthOf 41 = .ok (.iconst 2, 1) := by decide +kernel
theorem dX6_worthOf_42 : decode cX6_worthOf 42 = .ok (.iload_n 1, 1) := by decide +kernel
theorem dX6_worthOf_43 : decode cX6_worthOf 43 = .ok (.bipush 7, 2) := by decide +kernel
theorem dX6_worthOf_45 : decode cX6_worthOf 45 = .ok (.iadd, 1) := by decide +kernel
theorem dX6_worthOf_46 : decode cX6_worthOf 46 = .ok (.imul, 1) := by decide +kernel
theorem dX6_worthOf_47 : decode cX6_worthOf 47 = .ok (.ireturn, 1) := by decide +kernel
theorem dX6_worthOf_48 : decode cX6_worthOf 48 = .ok (.bipush 99, 2) := by decide +kernel
theorem dX6_worthOf_50 : decode cX6_worthOf 50 = .ok (.iload_n 1, 1) := by decide +kernel
theorem dX6_worthOf_51 : decode cX6_worthOf 51 = .ok (.isub, 1) := by decide +kernel
theorem dX6_worthOf_52 : decode cX6_worthOf 52 = .ok (.ireturn, 1) := by decide +kernel
theorem dX6_worthOf_53 : decode cX6_worthOf 53 = .ok (.bipush 99, 2) := by decide +kernel
theorem dX6_worthOf_55 : decode cX6_worthOf 55 = .ok (.iload_n 1, 1) := by decide +kernel
theorem dX6_worthOf_56 : decode cX6_worthOf 56 = .ok (.isub, 1) := by decide +kernel
theorem dX6_worthOf_57 : decode cX6_worthOf 57 = .ok (.iconst 3, 1) := by decide +kernel
theorem dX6_worthOf_58 : decode cX6_worthOf 58 = .ok (.isub, 1) := by decide +kernel
theorem dX6_worthOf_59 : decode cX6_worthOf 59 = .ok (.ireturn, 1) := by decide +kernel
theorem dX6_worthOf_60 : decode cX6_worthOf 60 = .ok (.bipush 6, 2) := by decide +kernel
theorem dX6_worthOf_62 : decode cX6_worthOf 62 = .ok (.ireturn, 1) := by decide +kernel
theorem dX6_worthOf_63 : decode cX6_worthOf 63 = .ok (.iload_n 1, 1) := by decide +kernel
theorem dX6_worthOf_64 : decode cX6_worthOf 64 = .ok (.ireturn, 1) := by decide +kernel
theorem dX6_compareWear_0 : decode cX6_compareWear 0 = .ok (.iconst 0, 1) := by decide +kernel
theorem dX6_compareWear_1 : decode cX6_compareWear 1 = .ok (.istore_n 2, 1) := by decide +kernel
theorem dX6_compareWear_2 : decode cX6_compareWear 2 = .ok (.iload_n 2, 1) := by decide +kernel
theorem dX6_compareWear_3 : decode cX6_compareWear 3 = .ok (.bipush 10, 2) := by decide +kernel
theorem dX6_compareWear_5 : decode cX6_compareWear 5 = .ok (.if_icmp .ge 16, 3) := by decide +kernel
theorem dX6_compareWear_8 : decode cX6_compareWear 8 = .ok (.aload_n 0, 1) := by decide +kernel
theorem dX6_compareWear_9 : decode cX6_compareWear 9 = .ok (.getfield 45, 3) := by decide +kernel
theorem dX6_compareWear_12 : decode cX6_compareWear 12 = .ok (.iload_n 2, 1) := by decide +kernel
theorem dX6_compareWear_13 : decode cX6_compareWear 13 = .ok (.iconst 0, 1) := by decide +kernel
theorem dX6_compareWear_14 : decode cX6_compareWear 14 = .ok (.iastore, 1) := by decide +kernel
theorem dX6_compareWear_15 : decode cX6_compareWear 15 = .ok (.iinc 2 1, 3) := by decide +kernel
theorem dX6_compareWear_18 : decode cX6_compareWear 18 = .ok (.goto (-16), 3) := by decide +kernel
theorem dX6_compareWear_21 : decode cX6_compareWear 21 = .ok (.aload_n 0, 1) := by decide +kernel
theorem dX6_compareWear_22 : decode cX6_compareWear 22 = .ok (.getfield 35, 3) := by decide +kernel
theorem dX6_compareWear_25 : decode cX6_compareWear 25 = .ok (.aload_n 0, 1) := by decide +kernel
theorem dX6_compareWear_26 : decode cX6_compareWear 26 = .ok (.getfield 28, 3) := by decide +kernel
theorem dX6_compareWear_29 : decode cX6_compareWear 29 = .ok (.invokevirtual 205, 3) := by decide +kernel
theorem dX6_compareWear_32 : decode cX6_compareWear 32 = .ok (.iconst 0, 1) := by decide +kernel
theorem dX6_compareWear_33 : decode cX6_compareWear 33 = .ok (.istore_n 2, 1) := by decide +kernel
theorem dX6_compareWear_34 : decode cX6_compareWear 34 = .ok (.iload_n 2, 1) := by decide +kernel
theorem dX6_compareWear_35 : decode cX6_compareWear 35 = .ok (.aload_n 1, 1) := by decide +kernel
theorem dX6_compareWear_36 : decode cX6_compareWear 36 = .ok (.getfield 279, 3) := by decide +kernel
theorem dX6_compareWear_39 : decode cX6_compareWear 39 = .ok (.if_icmp .ge 72, 3) := by decide +kernel
theorem dX6_compareWear_42 : decode cX6_compareWear 42 = .ok (.aload_n 1, 1) := by decide +kernel
theorem dX6_compareWear_43 : decode cX6_compareWear 43 = .ok (.iload_n 2, 1) := by decide +kernel
theorem dX6_compareWear_44 : decode cX6_compareWear 44 = .ok (.invokevirtual 280, 3) := by decide +kernel
theorem dX6_compareWear_47 : decode cX6_compareWear 47 = .ok (.ifCond .eq 50, 3) := by decide +kernel
theorem dX6_compareWear_50 : decode cX6_compareWear 50 = .ok (.iconst 0, 1) := by decide +kernel
theorem dX6_compareWear_51 : decode cX6_compareWear 51 = .ok (.istore_n 3, 1) := by decide +kernel
theorem dX6_compareWear_52 : decode cX6_compareWear 52 = .ok (.iload_n 3, 1) := by decide +kernel
theorem dX6_compareWear_53 : decode cX6_compareWear 53 = .ok (.aload_n 0, 1) := by decide +kernel
theorem dX6_compareWear_54 : decode cX6_compareWear 54 = .ok (.getfield 35, 3) := by decide +kernel
theorem dX6_compareWear_57 : decode cX6_compareWear 57 = .ok (.getfield 86, 3) := by decide +kernel
theorem dX6_compareWear_60 : decode cX6_compareWear 60 = .ok (.if_icmp .ge 37, 3) := by decide +kernel
theorem dX6_compareWear_63 : decode cX6_compareWear 63 = .ok (.aload_n 0, 1) := by decide +kernel
theorem dX6_compareWear_64 : decode cX6_compareWear 64 = .ok (.getfield 45, 3) := by decide +kernel
theorem dX6_compareWear_67 : decode cX6_compareWear 67 = .ok (.iload_n 3, 1) := by decide +kernel
theorem dX6_compareWear_68 : decode cX6_compareWear 68 = .ok (.dup2, 1) := by decide +kernel
theorem dX6_compareWear_69 : decode cX6_compareWear 69 = .ok (.iaload, 1) := by decide +kernel
theorem dX6_compareWear_70 : decode cX6_compareWear 70 = .ok (.aload_n 0, 1) := by decide +kernel
theorem dX6_compareWear_71 : decode cX6_compareWear 71 = .ok (.getfield 35, 3) := by decide +kernel
theorem dX6_compareWear_74 : decode cX6_compareWear 74 = .ok (.getfield 106, 3) := by decide +kernel
theorem dX6_compareWear_77 : decode cX6_compareWear 77 = .ok (.iload_n 3, 1) := by decide +kernel
theorem dX6_compareWear_78 : decode cX6_compareWear 78 = .ok (.iaload, 1) := by decide +kernel
theorem dX6_compareWear_79 : decode cX6_compareWear 79 = .ok (.aload_n 1, 1) := by decide +kernel
theorem dX6_compareWear_80 : decode cX6_compareWear 80 = .ok (.getfield 274, 3) := by decide +kernel
theorem dX6_compareWear_83 : decode cX6_compareWear 83 = .ok (.iload_n 2, 1) := by decide +kernel
theorem dX6_compareWear_84 : decode cX6_compareWear 84 = .ok (.iaload, 1) := by decide +kernel
theorem dX6_compareWear_85 : decode cX6_compareWear 85 = .ok (.isub, 1) := by decide +kernel
theorem dX6_compareWear_86 : decode cX6_compareWear 86 = .ok (.invokestatic 326, 3) := by decide +kernel
theorem dX6_compareWear_89 : decode cX6_compareWear 89 = .ok (.iadd, 1) := by decide +kernel
theorem dX6_compareWear_90 : decode cX6_compareWear 90 = .ok (.iastore, 1) := by decide +kernel
theorem dX6_compareWear_91 : decode cX6_compareWear 91 = .ok (.iinc 3 1, 3) := by decide +kernel
theorem dX6_compareWear_94 : decode cX6_compareWear 94 = .ok (.goto (-42), 3) := by decide +kernel
theorem dX6_compareWear_97 : decode cX6_compareWear 97 = .ok (.aload_n 0, 1) := by decide +kernel
theorem dX6_compareWear_98 : decode cX6_compareWear 98 = .ok (.getfield 35, 3) := by decide +kernel
theorem dX6_compareWear_101 : decode cX6_compareWear 101 = .ok (.iconst 1, 1) := by decide +kernel
theorem dX6_compareWear_102 : decode cX6_compareWear 102 = .ok (.invokevirtual 167, 3) := by decide +kernel
theorem dX6_compareWear_105 : decode cX6_compareWear 105 = .ok (.iinc 2 1, 3) := by decide +kernel
theorem dX6_compareWear_108 : decode cX6_compareWear 108 = .ok (.goto (-74), 3) := by decide +kernel
theorem dX6_compareWear_111 : decode cX6_compareWear 111 = .ok (.return_, 1) := by decide +kernel
theorem dX7_init_0 : decode cX7_init 0 = .ok (.aload_n 0, 1) := by decide +kernel
theorem dX7_init_1 : decode cX7_init 1 = .ok (.invokespecial 1, 3) := by decide +kernel
theorem dX7_init_4 : decode cX7_init 4 = .ok (.aload_n 0, 1) := by decide +kernel
theorem dX7_init_5 : decode cX7_init 5 = .ok (.sipush 3078, 3) := by decide +kernel
theorem dX7_init_8 : decode cX7_init 8 = .ok (.newarray .int, 2) := by decide +kernel
theorem dX7_init_10 : decode cX7_init 10 = .ok (.putfield 7, 3) := by decide +kernel
theorem dX7_init_13 : decode cX7_init 13 = .ok (.aload_n 0, 1) := by decide +kernel
theorem dX7_init_14 : decode cX7_init 14 = .ok (.sipush 3078, 3) := by decide +kernel
theorem dX7_init_17 : decode cX7_init 17 = .ok (.newarray .int, 2) := by decide +kernel
theorem dX7_init_19 : decode cX7_init 19 = .ok (.putfield 13, 3) := by decide +kernel
theorem dX7_init_22 : decode cX7_init 22 = .ok (.aload_n 0, 1) := by decide +kernel
theorem dX7_init_23 : decode cX7_init 23 = .ok (.sipush 3078, 3) := by decide +kernel
theorem dX7_init_26 : decode cX7_init 26 = .ok (.newarray .int, 2) := by decide +kernel
theorem dX7_init_28 : decode cX7_init 28 = .ok (.putfield 16, 3) := by decide +kernel
theorem dX7_init_31 : decode cX7_init 31 = .ok (.aload_n 0, 1) := by decide +kernel
theorem dX7_init_32 : decode cX7_init 32 = .ok (.iconst 4, 1) := by decide +kernel
theorem dX7_init_33 : decode cX7_init 33 = .ok (.newarray .int, 2) := by decide +kernel
theorem dX7_init_35 : decode cX7_init 35 = .ok (.putfield 19, 3) := by decide +kernel
theorem dX7_init_38 : decode cX7_init 38 = .ok (.aload_n 0, 1) := by decide +kernel
theorem dX7_init_39 : decode cX7_init 39 = .ok (.iconst 4, 1) := by decide +kernel
theorem dX7_init_40 : decode cX7_init 40 = .ok (.newarray .int, 2) := by decide +kernel
theorem dX7_init_42 : decode cX7_init 42 = .ok (.putfield 22, 3) := by decide +kernel
theorem dX7_init_45 : decode cX7_init 45 = .ok (.aload_n 0, 1) := by decide +kernel
theorem dX7_init_46 : decode cX7_init 46 = .ok (.bipush 96, 2) := by decide +kernel
theorem dX7_init_48 : decode cX7_init 48 = .ok (.newarray .int, 2) := by decide +kernel
theorem dX7_init_50 : decode cX7_init 50 = .ok (.putfield 25, 3) := by decide +kernel
theorem dX7_init_53 : decode cX7_init 53 = .ok (.aload_n 0, 1) := by decide +kernel
theorem dX7_init_54 : decode cX7_init 54 = .ok (.iconst 5, 1) := by decide +kernel
theorem dX7_init_55 : decode cX7_init 55 = .ok (.newarray .int, 2) := by decide +kernel
theorem dX7_init_57 : decode cX7_init 57 = .ok (.putfield 28, 3) := by decide +kernel
theorem dX7_init_60 : decode cX7_init 60 = .ok (.aload_n 0, 1) := by decide +kernel
theorem dX7_init_61 : decode cX7_init 61 = .ok (.iconst 5, 1) := by decide +kernel
theorem dX7_init_62 : decode cX7_init 62 = .ok (.newarray .int, 2) := by decide +kernel
theorem dX7_init_64 : decode cX7_init 64 = .ok (.putfield 31, 3) := by decide +kernel
theorem dX7_init_67 : decode cX7_init 67 = .ok (.aload_n 0, 1) := by decide +kernel
theorem dX7_init_68 : decode cX7_init 68 = .ok (.iconst 5, 1) := by decide +kernel
theorem dX7_init_69 : decode cX7_init 69 = .ok (.newarray .int, 2) := by decide +kernel
theorem dX7_init_71 : decode cX7_init 71 = .ok (.putfield 34, 3) := by decide +kernel
theorem dX7_init_74 : decode cX7_init 74 = .ok (.aload_n 0, 1) := by decide +kernel
theorem dX7_init_75 : decode cX7_init 75 = .ok (.iconst 5, 1) := by decide +kernel
theorem dX7_init_76 : decode cX7_init 76 = .ok (.newarray .int, 2) := by decide +kernel
theorem dX7_init_78 : decode cX7_init 78 = .ok (.putfield 37, 3) := by decide +kernel
theorem dX7_init_81 : decode cX7_init 81 = .ok (.aload_n 0, 1) := by decide +kernel
theorem dX7_init_82 : decode cX7_init 82 = .ok (.bipush 120, 2) := by decide +kernel
theorem dX7_init_84 : decode cX7_init 84 = .ok (.newarray .int, 2) := by decide +kernel
theorem dX7_init_86 : decode cX7_init 86 = .ok (.putfield 40, 3) := by decide +kernel
theorem dX7_init_89 : decode cX7_init 89 = .ok (.aload_n 0, 1) := by decide +kernel
theorem dX7_init_90 : decode cX7_init 90 = .ok (.bipush 10, 2) := by decide +kernel
theorem dX7_init_92 : decode cX7_init 92 = .ok (.newarray .int, 2) := by decide +kernel
theorem dX7_init_94 : decode cX7_init 94 = .ok (.putfield 43, 3) := by decide +kernel
theorem dX7_init_97 : decode cX7_init 97 = .ok (.aload_n 0, 1) := by decide +kernel
theorem dX7_init_98 : decode cX7_init 98 = .ok (.bipush 78, 2) := by decide +kernel
theorem dX7_init_100 : decode cX7_init 100 = .ok (.newarray .int, 2) := by decide +kernel
theorem dX7_init_102 : decode cX7_init 102 = .ok (.putfield 46, 3) := by decide +kernel
theorem dX7_init_105 : decode cX7_init 105 = .ok (.aload_n 0, 1) := by decide +kernel
theorem dX7_init_106 : decode cX7_init 106 = .ok (.bipush 96, 2) := by decide +kernel
theorem dX7_init_108 : decode cX7_init 108 = .ok (.newarray .int, 2) := by decide +kernel
theorem dX7_init_110 : decode cX7_init 110 = .ok (.putfield 49, 3) := by decide +kernel
theorem dX7_init_113 : decode cX7_init 113 = .ok (.aload_n 0, 1) := by decide +kernel
theorem dX7_init_114 : decode cX7_init 114 = .ok (.sipush 128, 3) := by decide +kernel
theorem dX7_init_117 : decode cX7_init 117 = .ok (.newarray .int, 2) := by decide +kernel
theorem dX7_init_119 : decode cX7_init 119 = .ok (.putfield 52, 3) := by decide +kernel
theorem dX7_init_122 : decode cX7_init 122 = .ok (.aload_n 0, 1) := by decide +kernel
theorem dX7_init_123 : decode cX7_init 123 = .ok (.bipush 100, 2) := by decide +kernel
theorem dX7_init_125 : decode cX7_init 125 = .ok (.newarray .int, 2) := by decide +kernel
theorem dX7_init_127 : decode cX7_init 127 = .ok (.putfield 55, 3) := by decide +kernel
theorem dX7_init_130 : decode cX7_init 130 = .ok (.aload_n 0, 1) := by decide +kernel
theorem dX7_init_131 : decode cX7_init 131 = .ok (.bipush 24, 2) := by decide +kernel
theorem dX7_init_133 : decode cX7_init 133 = .ok (.newarray .int, 2) := by decide +kernel
theorem dX7_init_135 : decode cX7_init 135 = .ok (.putfield 58, 3) := by decide +kernel
theorem dX7_init_138 : decode cX7_init 138 = .ok (.aload_n 0, 1) := by decide +kernel
theorem dX7_init_139 : decode cX7_init 139 = .ok (.bipush 60, 2) := by decide +kernel
theorem dX7_init_141 : decode cX7_init 141 = .ok (.newarray .int, 2) := by decide +kernel
theorem dX7_init_143 : decode cX7_init 143 = .ok (.putfield 61, 3) := by decide +kernel
theorem dX7_init_146 : decode cX7_init 146 = .ok (.aload_n 0, 1) := by decide +kernel
theorem dX7_init_147 : decode cX7_init 147 = .ok (.bipush 60, 2) := by decide +kernel
theorem dX7_init_149 : decode cX7_init 149 = .ok (.newarray .int, 2) := by decide +kernel
theorem dX7_init_151 : decode cX7_init 151 = .ok (.putfield 64, 3) := by decide +kernel
theorem dX7_init_154 : decode cX7_init 154 = .ok (.aload_n 0, 1) := by decide +kernel
theorem dX7_init_155 : decode cX7_init 155 = .ok (.getfield 7, 3) := by decide +kernel
theorem dX7_init_158 : decode cX7_init 158 = .ok (.iconst 5, 1) := by decide +kernel
theorem dX7_init_159 : decode cX7_init 159 = .ok (.iconst 1, 1) := by decide +kernel
theorem dX7_init_160 : decode cX7_init 160 = .ok (.iastore, 1) := by decide +kernel
theorem dX7_init_161 : decode cX7_init 161 = .ok (.iconst 0, 1) := by decide +kernel
theorem dX7_init_162 : decode cX7_init 162 = .ok (.istore_n 1, 1) := by decide +kernel
theorem dX7_init_163 : decode cX7_init 163 = .ok (.iload_n 1, 1) := by decide +kernel
theorem dX7_init_164 : decode cX7_init 164 = .ok (.bipush 6, 2) := by decide +kernel
theorem dX7_init_166 : decode cX7_init 166 = .ok (.if_icmp .ge 30, 3) := by decide +kernel
theorem dX7_init_169 : decode cX7_init 169 = .ok (.aload_n 0, 1) := by decide +kernel
theorem dX7_init_170 : decode cX7_init 170 = .ok (.getfield 7, 3) := by decide +kernel
theorem dX7_init_173 : decode cX7_init 173 = .ok (.bipush 6, 2) := by decide +kernel
theorem dX7_init_175 : decode cX7_init 175 = .ok (.iload_n 1, 1) := by decide +kernel
theorem dX7_init_176 : decode cX7_init 176 = .ok (.iadd, 1) := by decide +kernel
theorem dX7_init_177 : decode cX7_init 177 = .ok (.bipush 100, 2) := by decide +kernel
theorem dX7_init_179 : decode cX7_init 179 = .ok (.iastore, 1) := by decide +kernel
theorem dX7_init_180 : decode cX7_init 180 = .ok (.aload_n 0, 1) := by decide +kernel
theorem dX7_init_181 : decode cX7_init 181 = .ok (.getfield 7, 3) := by decide +kernel
theorem dX7_init_184 : decode cX7_init 184 = .ok (.bipush 12, 2) := by decide +kernel
theorem dX7_init_186 : decode cX7_init 186 = .ok (.iload_n 1, 1) := by decide +kernel
theorem dX7_init_187 : decode cX7_init 187 = .ok (.iadd, 1) := by decide +kernel
theorem dX7_init_188 : decode cX7_init 188 = .ok (.iload_n 1, 1) := by decide +kernel
theorem dX7_init_189 : decode cX7_init 189 = .ok (.iastore, 1) := by decide +kernel
theorem dX7_init_190 : decode cX7_init 190 = .ok (.iinc 1 1, 3) := by decide +kernel
theorem dX7_init_193 : decode cX7_init 193 = .ok (.goto (-30), 3) := by decide +kernel
theorem dX7_init_196 : decode cX7_init 196 = .ok (.iconst 0, 1) := by decide +kernel
theorem dX7_init_197 : decode cX7_init 197 = .ok (.istore_n 1, 1) := by decide +kernel
theorem dX7_init_198 : decode cX7_init 198 = .ok (.iload_n 1, 1) := by decide +kernel
theorem dX7_init_199 : decode cX7_init 199 = .ok (.iconst 4, 1) := by decide +kernel
theorem dX7_init_200 : decode cX7_init 200 = .ok (.if_icmp .ge 16, 3) := by decide +kernel
theorem dX7_init_203 : decode cX7_init 203 = .ok (.aload_n 0, 1) := by decide +kernel
theorem dX7_init_204 : decode cX7_init 204 = .ok (.getfield 19, 3) := by decide +kernel
theorem dX7_init_207 : decode cX7_init 207 = .ok (.iload_n 1, 1) := by decide +kernel
theorem dX7_init_208 : decode cX7_init 208 = .ok (.iconst (-1), 1) := by decide +kernel
theorem dX7_init_209 : decode cX7_init 209 = .ok (.iastore, 1) := by decide +kernel
theorem dX7_init_210 : decode cX7_init 210 = .ok (.iinc 1 1, 3) := by decide +kernel
theorem dX7_init_213 : decode cX7_init 213 = .ok (.goto (-15), 3) := by decide +kernel
theorem dX7_init_216 : decode cX7_init 216 = .ok (.return_, 1) := by decide +kernel
theorem dX7_isIn_0 : decode cX7_isIn 0 = .ok (.lload_n 0, 1) := by decide +kernel
theorem dX7_isIn_1 : decode cX7_isIn 1 = .ok (.lload_n 2, 1) := by decide +kernel
theorem dX7_isIn_2 : decode cX7_isIn 2 = .ok (.lcmp, 1) := by decide +kernel
theorem dX7_isIn_3 : decode cX7_isIn 3 = .ok (.ifCond .lt 14, 3) := by decide +kernel
theorem dX7_isIn_6 : decode cX7_isIn 6 = .ok (.lload_n 0, 1) := by decide +kernel
theorem dX7_isIn_7 : decode cX7_isIn 7 = .ok (.lload 4, 2) := by decide +kernel
theorem dX7_isIn_9 : decode cX7_isIn 9 = .ok (.lcmp, 1) := by decide +kernel
theorem dX7_isIn_10 : decode cX7_isIn 10 = .ok (.ifCond .gt 7, 3) := by decide +kernel
theorem dX7_isIn_13 : decode cX7_isIn 13 = .ok (.iconst 1, 1) := by decide +kernel
theorem dX7_isIn_14 : decode cX7_isIn 14 = .ok (.goto 4, 3) := by decide +kernel
theorem dX7_isIn_17 : decode cX7_isIn 17 = .ok (.iconst 0, 1) := by decide +kernel
theorem dX7_isIn_18 : decode cX7_isIn 18 = .ok (.ireturn, 1) := by decide +kernel
theorem dX7_orNone_0 : decode cX7_orNone 0 = .ok (.iload_n 0, 1) := by decide +kernel
theorem dX7_orNone_1 : decode cX7_orNone 1 = .ok (.ifCond .ge 8, 3) := by decide +kernel
theorem dX7_orNone_4 : decode cX7_orNone 4 = .ok (.ldc 67, 2) := by decide +kernel
theorem dX7_orNone_6 : decode cX7_orNone 6 = .ok (.goto 4, 3) := by decide +kernel
theorem dX7_orNone_9 : decode cX7_orNone 9 = .ok (.iload_n 0, 1) := by decide +kernel
theorem dX7_orNone_10 : decode cX7_orNone 10 = .ok (.ireturn, 1) := by decide +kernel
theorem dX7_within_0 : decode cX7_within 0 = .ok (.iload_n 0, 1) := by decide +kernel
theorem dX7_within_1 : decode cX7_within 1 = .ok (.ifCond .ge 7, 3) := by decide +kernel
theorem dX7_within_4 : decode cX7_within 4 = .ok (.iconst 0, 1) := by decide +kernel
theorem dX7_within_5 : decode cX7_within 5 = .ok (.goto 13, 3) := by decide +kernel
theorem dX7_within_8 : decode cX7_within 8 = .ok (.iload_n 0, 1) := by decide +kernel
theorem dX7_within_9 : decode cX7_within 9 = .ok (.iload_n 1, 1) := by decide +kernel
theorem dX7_within_10 : decode cX7_within 10 = .ok (.if_icmp .le 7, 3) := by decide +kernel
theorem dX7_within_13 : decode cX7_within 13 = .ok (.iload_n 1, 1) := by decide +kernel
theorem dX7_within_14 : decode cX7_within 14 = .ok (.goto 4, 3) := by decide +kernel
theorem dX7_within_17 : decode cX7_within 17 = .ok (.iload_n 0, 1) := by decide +kernel
theorem dX7_within_18 : decode cX7_within 18 = .ok (.ireturn, 1) := by decide +kernel
theorem dX7_off_0 : decode cX7_off 0 = .ok (.iload_n 0, 1) := by decide +kernel
theorem dX7_off_1 : decode cX7_off 1 = .ok (.iload_n 1, 1) := by decide +kernel
theorem dX7_off_2 : decode cX7_off 2 = .ok (.if_icmp .ge 9, 3) := by decide +kernel
theorem dX7_off_5 : decode cX7_off 5 = .ok (.iload_n 1, 1) := by decide +kernel
theorem dX7_off_6 : decode cX7_off 6 = .ok (.iload_n 0, 1) := by decide +kernel
theorem dX7_off_7 : decode cX7_off 7 = .ok (.isub, 1) := by decide +kernel
theorem dX7_off_8 : decode cX7_off 8 = .ok (.goto 6, 3) := by decide +kernel
theorem dX7_off_11 : decode cX7_off 11 = .ok (.iload_n 0, 1) := by decide +kernel
theorem dX7_off_12 : decode cX7_off 12 = .ok (.iload_n 1, 1) := by decide +kernel
theorem dX7_off_13 : decode cX7_off 13 = .ok (.isub, 1) := by decide +kernel
theorem dX7_off_14 : decode cX7_off 14 = .ok (.ireturn, 1) := by decide +kernel
theorem dX7_becomes_0 : decode cX7_becomes 0 = .ok (.aload_n 0, 1) := by decide +kernel
theorem dX7_becomes_1 : decode cX7_becomes 1 = .ok (.getfield 7, 3) := by decide +kernel
theorem dX7_becomes_4 : decode cX7_becomes 4 = .ok (.iload_n 1, 1) := by decide +kernel
theorem dX7_becomes_5 : decode cX7_becomes 5 = .ok (.iaload, 1) := by decide +kernel
theorem dX7_becomes_6 : decode cX7_becomes 6 = .ok (.istore_n 3, 1) := by decide +kernel
theorem dX7_becomes_7 : decode cX7_becomes 7 = .ok (.aload_n 0, 1) := by decide +kernel
theorem dX7_becomes_8 : decode cX7_becomes 8 = .ok (.getfield 7, 3) := by decide +kernel
theorem dX7_becomes_11 : decode cX7_becomes 11 = .ok (.iload_n 1, 1) := by decide +kernel
theorem dX7_becomes_12 : decode cX7_becomes 12 = .ok (.iload_n 2, 1) := by decide +kernel
theorem dX7_becomes_13 : decode cX7_becomes 13 = .ok (.iastore, 1) := by decide +kernel
theorem dX7_becomes_14 : decode cX7_becomes 14 = .ok (.iload_n 3, 1) := by decide +kernel
theorem dX7_becomes_15 : decode cX7_becomes 15 = .ok (.ireturn, 1) := by decide +kernel
theorem dX7_textAt_0 : decode cX7_textAt 0 = .ok (.bipush 78, 2) := by decide +kernel
theorem dX7_textAt_2 : decode cX7_textAt 2 = .ok (.sipush 200, 3) := by decide +kernel
theorem dX7_textAt_5 : decode cX7_textAt 5 = .ok (.iload_n 1, 1) := by decide +kernel
theorem dX7_textAt_6 : decode cX7_textAt 6 = .ok (.imul, 1) := by decide +kernel
theorem dX7_textAt_7 : decode cX7_textAt 7 = .ok (.iadd, 1) := by decide +kernel
theorem dX7_textAt_8 : decode cX7_textAt 8 = .ok (.ireturn, 1) := by decide +kernel
theorem dX7_of_0 : decode cX7_of 0 = .ok (.aload_n 0, 1) := by decide +kernel
theorem dX7_of_1 : decode cX7_of 1 = .ok (.getfield 7, 3) := by decide +kernel
theorem dX7_of_4 : decode cX7_of 4 = .ok (.bipush 18, 2) := by decide +kernel
theorem dX7_of_6 : decode cX7_of 6 = .ok (.bipush 6, 2) := by decide +kernel
theorem dX7_of_8 : decode cX7_of 8 = .ok (.iload_n 1, 1) := by decide +kernel
theorem dX7_of_9 : decode cX7_of 9 = .ok (.imul, 1) := by decide +kernel
theorem dX7_of_10 : decode cX7_of 10 = .ok (.iadd, 1) := by decide +kernel
theorem dX7_of_11 : decode cX7_of 11 = .ok (.iload_n 2, 1) := by decide +kernel
theorem dX7_of_12 : decode cX7_of 12 = .ok (.iadd, 1) := by decide +kernel
theorem dX7_of_13 : decode cX7_of 13 = .ok (.iaload, 1) := by decide +kernel
theorem dX7_of_14 : decode cX7_of 14 = .ok (.ireturn, 1) := by decide +kernel
theorem dX7_sets_0 : decode cX7_sets 0 = .ok (.aload_n 0, 1) := by decide +kernel
theorem dX7_sets_1 : decode cX7_sets 1 = .ok (.getfield 7, 3) := by decide +kernel
theorem dX7_sets_4 : decode cX7_sets 4 = .ok (.bipush 18, 2) := by decide +kernel
theorem dX7_sets_6 : decode cX7_sets 6 = .ok (.bipush 6, 2) := by decide +kernel
theorem dX7_sets_8 : decode cX7_sets 8 = .ok (.iload_n 1, 1) := by decide +kernel
theorem dX7_sets_9 : decode cX7_sets 9 = .ok (.imul, 1) := by decide +kernel
theorem dX7_sets_10 : decode cX7_sets 10 = .ok (.iadd, 1) := by decide +kernel
theorem dX7_sets_11 : decode cX7_sets 11 = .ok (.iload_n 2, 1) := by decide +kernel
theorem dX7_sets_12 : decode cX7_sets 12 = .ok (.iadd, 1) := by decide +kernel
theorem dX7_sets_13 : decode cX7_sets 13 = .ok (.iload_n 3, 1) := by decide +kernel
theorem dX7_sets_14 : decode cX7_sets 14 = .ok (.iastore, 1) := by decide +kernel
theorem dX7_sets_15 : decode cX7_sets 15 = .ok (.return_, 1) := by decide +kernel
theorem dX7_isDay_0 : decode cX7_isDay 0 = .ok (.iload_n 1, 1) := by decide +kernel
theorem dX7_isDay_1 : decode cX7_isDay 1 = .ok (.i2l, 1) := by decide +kernel
theorem dX7_isDay_2 : decode cX7_isDay 2 = .ok (.lconst 0, 1) := by decide +kernel
theorem dX7_isDay_3 : decode cX7_isDay 3 = .ok (.aload_n 0, 1) := by decide +kernel
theorem dX7_isDay_4 : decode cX7_isDay 4 = .ok (.getfield 7, 3) := by decide +kernel
theorem dX7_isDay_7 : decode cX7_isDay 7 = .ok (.iconst 0, 1) := by decide +kernel
theorem dX7_isDay_8 : decode cX7_isDay 8 = .ok (.iaload, 1) := by decide +kernel
theorem dX7_isDay_9 : decode cX7_isDay 9 = .ok (.iconst 1, 1) := by decide +kernel
theorem dX7_isDay_10 : decode cX7_isDay 10 = .ok (.isub, 1) := by decide +kernel
theorem dX7_isDay_11 : decode cX7_isDay 11 = .ok (.i2l, 1) := by decide +kernel
theorem dX7_isDay_12 : decode cX7_isDay 12 = .ok (.invokestatic 68, 3) := by decide +kernel
theorem dX7_isDay_15 : decode cX7_isDay 15 = .ok (.ireturn, 1) := by decide +kernel
theorem dX7_isOne_0 : decode cX7_isOne 0 = .ok (.iload_n 0, 1) := by decide +kernel
theorem dX7_isOne_1 : decode cX7_isOne 1 = .ok (.ifCond .lt 13, 3) := by decide +kernel
theorem dX7_isOne_4 : decode cX7_isOne 4 = .ok (.iload_n 0, 1) := by decide +kernel
theorem dX7_isOne_5 : decode cX7_isOne 5 = .ok (.bipush 6, 2) := by decide +kernel
theorem dX7_isOne_7 : decode cX7_isOne 7 = .ok (.if_icmp .ge 7, 3) := by decide +kernel
theorem dX7_isOne_10 : decode cX7_isOne 10 = .ok (.iconst 1, 1) := by decide +kernel
theorem dX7_isOne_11 : decode cX7_isOne 11 = .ok (.goto 4, 3) := by decide +kernel
theorem dX7_isOne_14 : decode cX7_isOne 14 = .ok (.iconst 0, 1) := by decide +kernel
theorem dX7_isOne_15 : decode cX7_isOne 15 = .ok (.ireturn, 1) := by decide +kernel
theorem dX7_isText_0 : decode cX7_isText 0 = .ok (.iload_n 1, 1) := by decide +kernel
theorem dX7_isText_1 : decode cX7_isText 1 = .ok (.i2l, 1) := by decide +kernel
theorem dX7_isText_2 : decode cX7_isText 2 = .ok (.lconst 0, 1) := by decide +kernel
theorem dX7_isText_3 : decode cX7_isText 3 = .ok (.aload_n 0, 1) := by decide +kernel
theorem dX7_isText_4 : decode cX7_isText 4 = .ok (.getfield 7, 3) := by decide +kernel
theorem dX7_isText_7 : decode cX7_isText 7 = .ok (.iconst 1, 1) := by decide +kernel
theorem dX7_isText_8 : decode cX7_isText 8 = .ok (.iaload, 1) := by decide +kernel
theorem dX7_isText_9 : decode cX7_isText 9 = .ok (.iconst 1, 1) := by decide +kernel
theorem dX7_isText_10 : decode cX7_isText 10 = .ok (.isub, 1) := by decide +kernel
theorem dX7_isText_11 : decode cX7_isText 11 = .ok (.i2l, 1) := by decide +kernel
theorem dX7_isText_12 : decode cX7_isText 12 = .ok (.invokestatic 68, 3) := by decide +kernel
theorem dX7_isText_15 : decode cX7_isText 15 = .ok (.ireturn, 1) := by decide +kernel
theorem dX7_drawn_0 : decode cX7_drawn 0 = .ok (.aload_n 0, 1) := by decide +kernel
theorem dX7_drawn_1 : decode cX7_drawn 1 = .ok (.getfield 7, 3) := by decide +kernel
theorem dX7_drawn_4 : decode cX7_drawn 4 = .ok (.iconst 5, 1) := by decide +kernel
theorem dX7_drawn_5 : decode cX7_drawn 5 = .ok (.aload_n 0, 1) := by decide +kernel
theorem dX7_drawn_6 : decode cX7_drawn 6 = .ok (.getfield 7, 3) := by decide +kernel
theorem dX7_drawn_9 : decode cX7_drawn 9 = .ok (.iconst 5, 1) := by decide +kernel
theorem dX7_drawn_10 : decode cX7_drawn 10 = .ok (.iaload, 1) := by decide +kernel
theorem dX7_drawn_11 : decode cX7_drawn 11 = .ok (.ldc 72, 2) := by decide +kernel
theorem dX7_drawn_13 : decode cX7_drawn 13 = .ok (.imul, 1) := by decide +kernel
theorem dX7_drawn_14 : decode cX7_drawn 14 = .ok (.sipush 12345, 3) := by decide +kernel
theorem dX7_drawn_17 : decode cX7_drawn 17 = .ok (.iadd, 1) := by decide +kernel
theorem dX7_drawn_18 : decode cX7_drawn 18 = .ok (.iastore, 1) := by decide +kernel
theorem dX7_drawn_19 : decode cX7_drawn 19 = .ok (.aload_n 0, 1) := by decide +kernel
theorem dX7_drawn_20 : decode cX7_drawn 20 = .ok (.getfield 7, 3) := by decide +kernel
theorem dX7_drawn_23 : decode cX7_drawn 23 = .ok (.iconst 5, 1) := by decide +kernel
theorem dX7_drawn_24 : decode cX7_drawn 24 = .ok (.iaload, 1) := by decide +kernel
theorem dX7_drawn_25 : decode cX7_drawn 25 = .ok (.bipush 8, 2) := by decide +kernel
theorem dX7_drawn_27 : decode cX7_drawn 27 = .ok (.iushr, 1) := by decide +kernel
theorem dX7_drawn_28 : decode cX7_drawn 28 = .ok (.ireturn, 1) := by decide +kernel
theorem dX7_comes_0 : decode cX7_comes 0 = .ok (.aload_n 0, 1) := by decide +kernel
theorem dX7_comes_1 : decode cX7_comes 1 = .ok (.getfield 7, 3) := by decide +kernel
theorem dX7_comes_4 : decode cX7_comes 4 = .ok (.iconst 0, 1) := by decide +kernel
theorem dX7_comes_5 : decode cX7_comes 5 = .ok (.iaload, 1) := by decide +kernel
theorem dX7_comes_6 : decode cX7_comes 6 = .ok (.istore 5, 2) := by decide +kernel
theorem dX7_comes_8 : decode cX7_comes 8 = .ok (.aload_n 0, 1) := by decide +kernel
theorem dX7_comes_9 : decode cX7_comes 9 = .ok (.getfield 7, 3) := by decide +kernel
theorem dX7_comes_12 : decode cX7_comes 12 = .ok (.iconst 0, 1) := by decide +kernel
theorem dX7_comes_13 : decode cX7_comes 13 = .ok (.dup2, 1) := by decide +kernel
theorem dX7_comes_14 : decode cX7_comes 14 = .ok (.iaload, 1) := by decide +kernel
theorem dX7_comes_15 : decode cX7_comes 15 = .ok (.iconst 1, 1) := by decide +kernel
theorem dX7_comes_16 : decode cX7_comes 16 = .ok (.iadd, 1) := by decide +kernel
theorem dX7_comes_17 : decode cX7_comes 17 = .ok (.iastore, 1) := by decide +kernel
theorem dX7_comes_18 : decode cX7_comes 18 = .ok (.aload_n 0, 1) := by decide +kernel
theorem dX7_comes_19 : decode cX7_comes 19 = .ok (.iload 5, 2) := by decide +kernel
theorem dX7_comes_21 : decode cX7_comes 21 = .ok (.iconst 0, 1) := by decide +kernel
theorem dX7_comes_22 : decode cX7_comes 22 = .ok (.iload_n 1, 1) := by decide +kernel
theorem dX7_comes_23 : decode cX7_comes 23 = .ok (.invokevirtual 73, 3) := by decide +kernel
theorem dX7_comes_26 : decode cX7_comes 26 = .ok (.aload_n 0, 1) := by decide +kernel
theorem dX7_comes_27 : decode cX7_comes 27 = .ok (.iload 5, 2) := by decide +kernel
theorem dX7_comes_29 : decode cX7_comes 29 = .ok (.iconst 1, 1) := by decide +kernel
theorem dX7_comes_30 : decode cX7_comes 30 = .ok (.iload_n 2, 1) := by decide +kernel
theorem dX7_comes_31 : decode cX7_comes 31 = .ok (.invokevirtual 73, 3) := by decide +kernel
theorem dX7_comes_34 : decode cX7_comes 34 = .ok (.aload_n 0, 1) := by decide +kernel
theorem dX7_comes_35 : decode cX7_comes 35 = .ok (.iload 5, 2) := by decide +kernel
theorem dX7_comes_37 : decode cX7_comes 37 = .ok (.iconst 2, 1) := by decide +kernel
theorem dX7_comes_38 : decode cX7_comes 38 = .ok (.iload_n 3, 1) := by decide +kernel
theorem dX7_comes_39 : decode cX7_comes 39 = .ok (.invokevirtual 73, 3) := by decide +kernel
theorem dX7_comes_42 : decode cX7_comes 42 = .ok (.aload_n 0, 1) := by decide +kernel
theorem dX7_comes_43 : decode cX7_comes 43 = .ok (.iload 5, 2) := by decide +kernel
theorem dX7_comes_45 : decode cX7_comes 45 = .ok (.iconst 3, 1) := by decide +kernel
theorem dX7_comes_46 : decode cX7_comes 46 = .ok (.iconst 0, 1) := by decide +kernel
theorem dX7_comes_47 : decode cX7_comes 47 = .ok (.invokevirtual 73, 3) := by decide +kernel
theorem dX7_comes_50 : decode cX7_comes 50 = .ok (.aload_n 0, 1) := by decide +kernel
theorem dX7_comes_51 : decode cX7_comes 51 = .ok (.iload 5, 2) := by decide +kernel
theorem dX7_comes_53 : decode cX7_comes 53 = .ok (.iconst 4, 1) := by decide +kernel
theorem dX7_comes_54 : decode cX7_comes 54 = .ok (.iload 4, 2) := by decide +kernel
theorem dX7_comes_56 : decode cX7_comes 56 = .ok (.invokevirtual 73, 3) := by decide +kernel
theorem dX7_comes_59 : decode cX7_comes 59 = .ok (.aload_n 0, 1) := by decide +kernel
theorem dX7_comes_60 : decode cX7_comes 60 = .ok (.iload 5, 2) := by decide +kernel
theorem dX7_comes_62 : decode cX7_comes 62 = .ok (.iconst 5, 1) := by decide +kernel
theorem dX7_comes_63 : decode cX7_comes 63 = .ok (.iconst 1, 1) := by decide +kernel
theorem dX7_comes_64 : decode cX7_comes 64 = .ok (.iload 4, 2) := by decide +kernel
theorem dX7_comes_66 : decode cX7_comes 66 = .ok (.ishl, 1) := by decide +kernel
theorem dX7_comes_67 : decode cX7_comes 67 = .ok (.invokevirtual 73, 3) := by decide +kernel
theorem dX7_comes_70 : decode cX7_comes 70 = .ok (.return_, 1) := by decide +kernel
theorem dX7_day_0 : decode cX7_day 0 = .ok (.iload_n 1, 1) := by decide +kernel
theorem dX7_day_1 : decode cX7_day 1 = .ok (.i2l, 1) := by decide +kernel
theorem dX7_day_2 : decode cX7_day 2 = .ok (.lconst 0, 1) := by decide +kernel
theorem dX7_day_3 : decode cX7_day 3 = .ok (.ldc2_w 77, 3) := by decide +kernel
theorem dX7_day_6 : decode cX7_day 6 = .ok (.invokestatic 68, 3) := by decide +kernel
theorem dX7_day_9 : decode cX7_day 9 = .ok (.ifCond .eq 35, 3) := by decide +kernel
theorem dX7_day_12 : decode cX7_day 12 = .ok (.iload_n 2, 1) := by decide +kernel
theorem dX7_day_13 : decode cX7_day 13 = .ok (.i2l, 1) := by decide +kernel
theorem dX7_day_14 : decode cX7_day 14 = .ok (.lconst 0, 1) := by decide +kernel
theorem dX7_day_15 : decode cX7_day 15 = .ok (.ldc2_w 79, 3) := by decide +kernel
theorem dX7_day_18 : decode cX7_day 18 = .ok (.invokestatic 68, 3) := by decide +kernel
theorem dX7_day_21 : decode cX7_day 21 = .ok (.ifCond .eq 23, 3) := by decide +kernel
theorem dX7_day_24 : decode cX7_day 24 = .ok (.iload_n 3, 1) := by decide +kernel
theorem dX7_day_25 : decode cX7_day 25 = .ok (.i2l, 1) := by decide +kernel
theorem dX7_day_26 : decode cX7_day 26 = .ok (.lconst 0, 1) := by decide +kernel
theorem dX7_day_27 : decode cX7_day 27 = .ok (.ldc2_w 81, 3) := by decide +kernel
theorem dX7_day_30 : decode cX7_day 30 = .ok (.invokestatic 68, 3) := by decide +kernel
theorem dX7_day_33 : decode cX7_day 33 = .ok (.ifCond .eq 11, 3) := by decide +kernel
theorem dX7_day_36 : decode cX7_day 36 = .ok (.iload 4, 2) := by decide +kernel
theorem dX7_day_38 : decode cX7_day 38 = .ok (.invokestatic 83, 3) := by decide +kernel
theorem dX7_day_41 : decode cX7_day 41 = .ok (.ifCond .ne 6, 3) := by decide +kernel
theorem dX7_day_44 : decode cX7_day 44 = .ok (.ldc 87, 2) := by decide +kernel
theorem dX7_day_46 : decode cX7_day 46 = .ok (.ireturn, 1) := by decide +kernel
theorem dX7_day_47 : decode cX7_day 47 = .ok (.aload_n 0, 1) := by decide +kernel
theorem dX7_day_48 : decode cX7_day 48 = .ok (.getfield 7, 3) := by decide +kernel
theorem dX7_day_51 : decode cX7_day 51 = .ok (.iconst 0, 1) := by decide +kernel
theorem dX7_day_52 : decode cX7_day 52 = .ok (.iaload, 1) := by decide +kernel
theorem dX7_day_53 : decode cX7_day 53 = .ok (.bipush 10, 2) := by decide +kernel
theorem dX7_day_55 : decode cX7_day 55 = .ok (.if_icmp .ne 6, 3) := by decide +kernel
theorem dX7_day_58 : decode cX7_day 58 = .ok (.ldc 88, 2) := by decide +kernel
theorem dX7_day_60 : decode cX7_day 60 = .ok (.ireturn, 1) := by decide +kernel
theorem dX7_day_61 : decode cX7_day 61 = .ok (.aload_n 0, 1) := by decide +kernel
theorem dX7_day_62 : decode cX7_day 62 = .ok (.iload_n 1, 1) := by decide +kernel
theorem dX7_day_63 : decode cX7_day 63 = .ok (.iload_n 2, 1) := by decide +kernel
theorem dX7_day_64 : decode cX7_day 64 = .ok (.iload_n 3, 1) := by decide +kernel
theorem dX7_day_65 : decode cX7_day 65 = .ok (.iload 4, 2) := by decide +kernel
theorem dX7_day_67 : decode cX7_day 67 = .ok (.invokevirtual 89, 3) := by decide +kernel
theorem dX7_day_70 : decode cX7_day 70 = .ok (.aload_n 0, 1) := by decide +kernel
theorem dX7_day_71 : decode cX7_day 71 = .ok (.getfield 7, 3) := by decide +kernel
theorem dX7_day_74 : decode cX7_day 74 = .ok (.iconst 0, 1) := by decide +kernel
theorem dX7_day_75 : decode cX7_day 75 = .ok (.iaload, 1) := by decide +kernel
theorem dX7_day_76 : decode cX7_day 76 = .ok (.iconst 1, 1) := by decide +kernel
theorem dX7_day_77 : decode cX7_day 77 = .ok (.isub, 1) := by decide +kernel
theorem dX7_day_78 : decode cX7_day 78 = .ok (.ireturn, 1) := by decide +kernel
theorem dX7_priceBy_0 : decode cX7_priceBy 0 = .ok (.aload_n 0, 1) := by decide +kernel
theorem dX7_priceBy_1 : decode cX7_priceBy 1 = .ok (.iconst 0, 1) := by decide +kernel
theorem dX7_priceBy_2 : decode cX7_priceBy 2 = .ok (.invokevirtual 93, 3) := by decide +kernel
theorem dX7_priceBy_5 : decode cX7_priceBy 5 = .ok (.istore_n 3, 1) := by decide +kernel
theorem dX7_priceBy_6 : decode cX7_priceBy 6 = .ok (.iload_n 3, 1) := by decide +kernel
theorem dX7_priceBy_7 : decode cX7_priceBy 7 = .ok (.ifCond .ge 21, 3) := by decide +kernel
theorem dX7_priceBy_10 : decode cX7_priceBy 10 = .ok (.bipush 10, 2) := by decide +kernel
theorem dX7_priceBy_12 : decode cX7_priceBy 12 = .ok (.iload_n 2, 1) := by decide +kernel
theorem dX7_priceBy_13 : decode cX7_priceBy 13 = .ok (.imul, 1) := by decide +kernel
theorem dX7_priceBy_14 : decode cX7_priceBy 14 = .ok (.aload_n 0, 1) := by decide +kernel
theorem dX7_priceBy_15 : decode cX7_priceBy 15 = .ok (.iload_n 1, 1) := by decide +kernel
theorem dX7_priceBy_16 : decode cX7_priceBy 16 = .ok (.iconst 3, 1) := by decide +kernel
theorem dX7_priceBy_17 : decode cX7_priceBy 17 = .ok (.invokevirtual 97, 3) := by decide +kernel
theorem dX7_priceBy_20 : decode cX7_priceBy 20 = .ok (.isub, 1) := by decide +kernel
theorem dX7_priceBy_21 : decode cX7_priceBy 21 = .ok (.sipush 999, 3) := by decide +kernel
theorem dX7_priceBy_24 : decode cX7_priceBy 24 = .ok (.invokestatic 101, 3) := by decide +kernel
theorem dX7_priceBy_27 : decode cX7_priceBy 27 = .ok (.ireturn, 1) := by decide +kernel
theorem dX7_priceBy_28 : decode cX7_priceBy 28 = .ok (.aload_n 0, 1) := by decide +kernel
theorem dX7_priceBy_29 : decode cX7_priceBy 29 = .ok (.getfield 52, 3) := by decide +kernel
theorem dX7_priceBy_32 : decode cX7_priceBy 32 = .ok (.bipush 116, 2) := by decide +kernel
theorem dX7_priceBy_34 : decode cX7_priceBy 34 = .ok (.iload_n 2, 1) := by decide +kernel
theorem dX7_priceBy_35 : decode cX7_priceBy 35 = .ok (.iastore, 1) := by decide +kernel
theorem dX7_priceBy_36 : decode cX7_priceBy 36 = .ok (.aload_n 0, 1) := by decide +kernel
theorem dX7_priceBy_37 : decode cX7_priceBy 37 = .ok (.getfield 52, 3) := by decide +kernel
theorem dX7_priceBy_40 : decode cX7_priceBy 40 = .ok (.bipush 119, 2) := by decide +kernel
theorem dX7_priceBy_42 : decode cX7_priceBy 42 = .ok (.aload_n 0, 1) := by decide +kernel
theorem dX7_priceBy_43 : decode cX7_priceBy 43 = .ok (.iload_n 1, 1) := by decide +kernel
theorem dX7_priceBy_44 : decode cX7_priceBy 44 = .ok (.iconst 3, 1) := by decide +kernel
theorem dX7_priceBy_45 : decode cX7_priceBy 45 = .ok (.invokevirtual 97, 3) := by decide +kernel
theorem dX7_priceBy_48 : decode cX7_priceBy 48 = .ok (.iastore, 1) := by decide +kernel
theorem dX7_priceBy_49 : decode cX7_priceBy 49 = .ok (.aload_n 0, 1) := by decide +kernel
theorem dX7_priceBy_50 : decode cX7_priceBy 50 = .ok (.getfield 52, 3) := by decide +kernel
theorem dX7_priceBy_53 : decode cX7_priceBy 53 = .ok (.bipush 100, 2) := by decide +kernel
theorem dX7_priceBy_55 : decode cX7_priceBy 55 = .ok (.aload_n 0, 1) := by decide +kernel
theorem dX7_priceBy_56 : decode cX7_priceBy 56 = .ok (.iload_n 1, 1) := by decide +kernel
theorem dX7_priceBy_57 : decode cX7_priceBy 57 = .ok (.iconst 1, 1) := by decide +kernel
theorem dX7_priceBy_58 : decode cX7_priceBy 58 = .ok (.invokevirtual 97, 3) := by decide +kernel
theorem dX7_priceBy_61 : decode cX7_priceBy 61 = .ok (.iastore, 1) := by decide +kernel
theorem dX7_priceBy_62 : decode cX7_priceBy 62 = .ok (.aload_n 0, 1) := by decide +kernel
theorem dX7_priceBy_63 : decode cX7_priceBy 63 = .ok (.iload_n 3, 1) := by decide +kernel
theorem dX7_priceBy_64 : decode cX7_priceBy 64 = .ok (.invokevirtual 104, 3) := by decide +kernel
theorem dX7_priceBy_67 : decode cX7_priceBy 67 = .ok (.sipush 999, 3) := by decide +kernel
theorem dX7_priceBy_70 : decode cX7_priceBy 70 = .ok (.invokestatic 101, 3) := by decide +kernel
theorem dX7_priceBy_73 : decode cX7_priceBy 73 = .ok (.ireturn, 1) := by decide +kernel
theorem dX7_valueOf_0 : decode cX7_valueOf 0 = .ok (.aload_n 0, 1) := by decide +kernel
theorem dX7_valueOf_1 : decode cX7_valueOf 1 = .ok (.iload_n 1, 1) := by decide +kernel
theorem dX7_valueOf_2 : decode cX7_valueOf 2 = .ok (.iconst 2, 1) := by decide +kernel
theorem dX7_valueOf_3 : decode cX7_valueOf 3 = .ok (.invokevirtual 97, 3) := by decide +kernel
theorem dX7_valueOf_6 : decode cX7_valueOf 6 = .ok (.istore_n 2, 1) := by decide +kernel
theorem dX7_valueOf_7 : decode cX7_valueOf 7 = .ok (.aload_n 0, 1) := by decide +kernel
theorem dX7_valueOf_8 : decode cX7_valueOf 8 = .ok (.iload_n 1, 1) := by decide +kernel
theorem dX7_valueOf_9 : decode cX7_valueOf 9 = .ok (.iconst 0, 1) := by decide +kernel
theorem dX7_valueOf_10 : decode cX7_valueOf 10 = .ok (.invokevirtual 97, 3) := by decide +kernel
theorem dX7_valueOf_13 : decode cX7_valueOf 13 = .ok (.tableswitch 92 1 5 #[35, 45, 55, 67, 90], 35) := by decide +kernel
theorem dX7_valueOf_48 : decode cX7_valueOf 48 = .ok (.aload_n 0, 1) := by decide +kernel
theorem dX7_valueOf_49 : decode cX7_valueOf 49 = .ok (.iload_n 1, 1) := by decide +kernel
theorem dX7_valueOf_50 : decode cX7_valueOf 50 = .ok (.iload_n 2, 1) := by decide +kernel
theorem dX7_valueOf_51 : decode cX7_valueOf 51 = .ok (.invokevirtual 107, 3) := by decide +kernel
theorem dX7_valueOf_54 : decode cX7_valueOf 54 = .ok (.bipush 20, 2) := by decide +kernel
theorem dX7_valueOf_56 : decode cX7_valueOf 56 = .ok (.iadd, 1) := by decide +kernel
theorem dX7_valueOf_57 : decode cX7_valueOf 57 = .ok (.ireturn, 1) := by decide +kernel
theorem dX7_valueOf_58 : decode cX7_valueOf 58 = .ok (.aload_n 0, 1) := by decide +kernel
theorem dX7_valueOf_59 : decode cX7_valueOf 59 = .ok (.iload_n 1, 1) := by decide +kernel
theorem dX7_valueOf_60 : decode cX7_valueOf 60 = .ok (.bipush 9, 2) := by decide +kernel
theorem dX7_valueOf_62 : decode cX7_valueOf 62 = .ok (.iload_n 2, 1) := by decide +kernel
theorem dX7_valueOf_63 : decode cX7_valueOf 63 = .ok (.isub, 1) := by decide +kernel
theorem dX7_valueOf_64 : decode cX7_valueOf 64 = .ok (.invokevirtual 107, 3) := by decide +kernel
theorem dX7_valueOf_67 : decode cX7_valueOf 67 = .ok (.ireturn, 1) := by decide +kernel
theorem dX7_valueOf_68 : decode cX7_valueOf 68 = .ok (.aload_n 0, 1) := by decide +kernel
theorem dX7_valueOf_69 : decode cX7_valueOf 69 = .ok (.iload_n 1, 1) := by decide +kernel
theorem dX7_valueOf_70 : decode cX7_valueOf 70 = .ok (.iload_n 2, 1) := by decide +kernel
theorem dX7_valueOf_71 : decode cX7_valueOf 71 = .ok (.invokevirtual 107, 3) := by decide +kernel
theorem dX7_valueOf_74 : decode cX7_valueOf 74 = .ok (.bipush 20, 2) := by decide +kernel
theorem dX7_valueOf_76 : decode cX7_valueOf 76 = .ok (.iadd, 1) := by decide +kernel
theorem dX7_valueOf_77 : decode cX7_valueOf 77 = .ok (.iconst 2, 1) := by decide +kernel
theorem dX7_valueOf_78 : decode cX7_valueOf 78 = .ok (.idiv, 1) := by decide +kernel
theorem dX7_valueOf_79 : decode cX7_valueOf 79 = .ok (.ireturn, 1) := by decide +kernel
theorem dX7_valueOf_80 : decode cX7_valueOf 80 = .ok (.aload_n 0, 1) := by decide +kernel
theorem dX7_valueOf_81 : decode cX7_valueOf 81 = .ok (.iload_n 1, 1) := by decide +kernel
theorem dX7_valueOf_82 : decode cX7_valueOf 82 = .ok (.bipush 9, 2) := by decide +kernel
theorem dX7_valueOf_84 : decode cX7_valueOf 84 = .ok (.iload_n 2, 1) := by decide +kernel
theorem dX7_valueOf_85 : decode cX7_valueOf 85 = .ok (.isub, 1) := by decide +kernel
theorem dX7_valueOf_86 : decode cX7_valueOf 86 = .ok (.invokevirtual 107, 3) := by decide +kernel
theorem dX7_valueOf_89 : decode cX7_valueOf 89 = .ok (.aload_n 0, 1) := by decide +kernel
theorem dX7_valueOf_90 : decode cX7_valueOf 90 = .ok (.iload_n 1, 1) := by decide +kernel
theorem dX7_valueOf_91 : decode cX7_valueOf 91 = .ok (.iconst 3, 1) := by decide +kernel
theorem dX7_valueOf_92 : decode cX7_valueOf 92 = .ok (.invokevirtual 97, 3) := by decide +kernel
theorem dX7_valueOf_95 : decode cX7_valueOf 95 = .ok (.isub, 1) := by decide +kernel
theorem dX7_valueOf_96 : decode cX7_valueOf 96 = .ok (.sipush 999, 3) := by decide +kernel
theorem dX7_valueOf_99 : decode cX7_valueOf 99 = .ok (.invokestatic 101, 3) := by decide +kernel
theorem dX7_valueOf_102 : decode cX7_valueOf 102 = .ok (.ireturn, 1) := by decide +kernel
theorem dX7_valueOf_103 : decode cX7_valueOf 103 = .ok (.iconst 5, 1) := by decide +kernel
theorem dX7_valueOf_104 : decode cX7_valueOf 104 = .ok (.ireturn, 1) := by decide +kernel
theorem dX7_valueOf_105 : decode cX7_valueOf 105 = .ok (.aload_n 0, 1) := by decide +kernel
theorem dX7_valueOf_106 : decode cX7_valueOf 106 = .ok (.iload_n 1, 1) := by decide +kernel
theorem dX7_valueOf_107 : decode cX7_valueOf 107 = .ok (.iload_n 2, 1) := by decide +kernel
theorem dX7_valueOf_108 : decode cX7_valueOf 108 = .ok (.invokevirtual 107, 3) := by decide +kernel
theorem dX7_valueOf_111 : decode cX7_valueOf 111 = .ok (.ireturn, 1) := by decide +kernel
theorem dX7_worth_0 : decode cX7_worth 0 = .ok (.aload_n 0, 1) := by decide +kernel
theorem dX7_worth_1 : decode cX7_worth 1 = .ok (.iload_n 1, 1) := by decide +kernel
theorem dX7_worth_2 : decode cX7_worth 2 = .ok (.iconst 1, 1) := by decide +kernel
theorem dX7_worth_3 : decode cX7_worth 3 = .ok (.invokevirtual 97, 3) := by decide +kernel
theorem dX7_worth_6 : decode cX7_worth 6 = .ok (.istore_n 2, 1) := by decide +kernel
theorem dX7_worth_7 : decode cX7_worth 7 = .ok (.aload_n 0, 1) := by decide +kernel
theorem dX7_worth_8 : decode cX7_worth 8 = .ok (.iload_n 1, 1) := by decide +kernel
theorem dX7_worth_9 : decode cX7_worth 9 = .ok (.iconst 0, 1) := by decide +kernel
theorem dX7_worth_10 : decode cX7_worth 10 = .ok (.invokevirtual 97, 3) := by decide +kernel
theorem dX7_worth_13 : decode cX7_worth 13 = .ok (.tableswitch 60 1 5 #[35, 40, 45, 52, 57], 35) := by decide +kernel
theorem dX7_worth_48 : decode cX7_worth 48 = .ok (.iload_n 2, 1) := by decide +kernel
theorem dX7_worth_49 : decode cX7_worth 49 = .ok (.bipush 7, 2) := by decide +kernel
theorem dX7_worth_51 : decode cX7_worth 51 = .ok (.iadd, 1) := by decide +kernel
theorem dX7_worth_52 : decode cX7_worth 52 = .ok (.ireturn, 1) := by decide +kernel
theorem dX7_worth_53 : decode cX7_worth 53 = .ok (.bipush 99, 2) := by decide +kernel
theorem dX7_worth_55 : decode cX7_worth 55 = .ok (.iload_n 2, 1) := by decide +kernel
theorem dX7_worth_56 : decode cX7_worth 56 = .ok (.isub, 1) := by decide +kernel
theorem dX7_worth_57 : decode cX7_worth 57 = .ok (.ireturn, 1) := by decide +kernel
theorem dX7_worth_58 : decode cX7_worth 58 = .ok (.iconst 2, 1) := by decide +kernel
theorem dX7_worth_59 : decode cX7_worth 59 = .ok (.iload_n 2, 1) := by decide +kernel
theorem dX7_worth_60 : decode cX7_worth 60 = .ok (.bipush 7, 2) := by decide +kernel
theorem dX7_worth_62 : decode cX7_worth 62 = .ok (.iadd, 1) := by decide +kernel
theorem dX7_worth_63 : decode cX7_worth 63 = .ok (.imul, 1) := by decide +kernel
theorem dX7_worth_64 : decode cX7_worth 64 = .ok (.ireturn, 1) := by decide +kernel
theorem dX7_worth_65 : decode cX7_worth 65 = .ok (.bipush 96, 2) := by decide +kernel
theorem dX7_worth_67 : decode cX7_worth 67 = .ok (.iload_n 2, 1) := by decide +kernel
theorem dX7_worth_68 : decode cX7_worth 68 = .ok (.isub, 1) := by decide +kernel
theorem dX7_worth_69 : decode cX7_worth 69 = .ok (.ireturn, 1) := by decide +kernel
theorem dX7_worth_70 : decode cX7_worth 70 = .ok (.bipush 6, 2) := by decide +kernel
theorem dX7_worth_72 : decode cX7_worth 72 = .ok (.ireturn, 1) := by decide +kernel
theorem dX7_worth_73 : decode cX7_worth 73 = .ok (.iload_n 2, 1) := by decide +kernel
theorem dX7_worth_74 : decode cX7_worth 74 = .ok (.ireturn, 1) := by decide +kernel
theorem dX7_offerOf_0 : decode cX7_offerOf 0 = .ok (.aload_n 0, 1) := by decide +kernel
theorem dX7_offerOf_1 : decode cX7_offerOf 1 = .ok (.iload_n 2, 1) := by decide +kernel
theorem dX7_offerOf_2 : decode cX7_offerOf 2 = .ok (.invokevirtual 110, 3) := by decide +kernel
theorem dX7_offerOf_5 : decode cX7_offerOf 5 = .ok (.iconst 5, 1) := by decide +kernel
theorem dX7_offerOf_6 : decode cX7_offerOf 6 = .ok (.aload_n 0, 1) := by decide +kernel
theorem dX7_offerOf_7 : decode cX7_offerOf 7 = .ok (.iload_n 2, 1) := by decide +kernel
theorem dX7_offerOf_8 : decode cX7_offerOf 8 = .ok (.iconst 2, 1) := by decide +kernel
theorem dX7_offerOf_9 : decode cX7_offerOf 9 = .ok (.invokevirtual 97, 3) := by decide +kernel
theorem dX7_offerOf_12 : decode cX7_offerOf 12 = .ok (.aload_n 0, 1) := by decide +kernel
theorem dX7_offerOf_13 : decode cX7_offerOf 13 = .ok (.getfield 7, 3) := by decide +kernel
theorem dX7_offerOf_16 : decode cX7_offerOf 16 = .ok (.bipush 12, 2) := by decide +kernel
theorem dX7_offerOf_18 : decode cX7_offerOf 18 = .ok (.iload_n 1, 1) := by decide +kernel
theorem dX7_offerOf_19 : decode cX7_offerOf 19 = .ok (.iadd, 1) := by decide +kernel
theorem dX7_offerOf_20 : decode cX7_offerOf 20 = .ok (.iaload, 1) := by decide +kernel
theorem dX7_offerOf_21 : decode cX7_offerOf 21 = .ok (.invokestatic 113, 3) := by decide +kernel
theorem dX7_offerOf_24 : decode cX7_offerOf 24 = .ok (.imul, 1) := by decide +kernel
theorem dX7_offerOf_25 : decode cX7_offerOf 25 = .ok (.isub, 1) := by decide +kernel
theorem dX7_offerOf_26 : decode cX7_offerOf 26 = .ok (.istore_n 3, 1) := by decide +kernel
theorem dX7_offerOf_27 : decode cX7_offerOf 27 = .ok (.aload_n 0, 1) := by decide +kernel
theorem dX7_offerOf_28 : decode cX7_offerOf 28 = .ok (.iload_n 2, 1) := by decide +kernel
theorem dX7_offerOf_29 : decode cX7_offerOf 29 = .ok (.iconst 4, 1) := by decide +kernel
theorem dX7_offerOf_30 : decode cX7_offerOf 30 = .ok (.invokevirtual 97, 3) := by decide +kernel
theorem dX7_offerOf_33 : decode cX7_offerOf 33 = .ok (.iload_n 1, 1) := by decide +kernel
theorem dX7_offerOf_34 : decode cX7_offerOf 34 = .ok (.if_icmp .ne 8, 3) := by decide +kernel
theorem dX7_offerOf_37 : decode cX7_offerOf 37 = .ok (.ldc 116, 2) := by decide +kernel
theorem dX7_offerOf_39 : decode cX7_offerOf 39 = .ok (.goto 12, 3) := by decide +kernel
theorem dX7_offerOf_42 : decode cX7_offerOf 42 = .ok (.aload_n 0, 1) := by decide +kernel
theorem dX7_offerOf_43 : decode cX7_offerOf 43 = .ok (.getfield 7, 3) := by decide +kernel
theorem dX7_offerOf_46 : decode cX7_offerOf 46 = .ok (.bipush 6, 2) := by decide +kernel
theorem dX7_offerOf_48 : decode cX7_offerOf 48 = .ok (.iload_n 1, 1) := by decide +kernel
theorem dX7_offerOf_49 : decode cX7_offerOf 49 = .ok (.iadd, 1) := by decide +kernel
theorem dX7_offerOf_50 : decode cX7_offerOf 50 = .ok (.iaload, 1) := by decide +kernel
theorem dX7_offerOf_51 : decode cX7_offerOf 51 = .ok (.istore 4, 2) := by decide +kernel
theorem dX7_offerOf_53 : decode cX7_offerOf 53 = .ok (.iload_n 3, 1) := by decide +kernel
theorem dX7_offerOf_54 : decode cX7_offerOf 54 = .ok (.iload 4, 2) := by decide +kernel
theorem dX7_offerOf_56 : decode cX7_offerOf 56 = .ok (.invokestatic 101, 3) := by decide +kernel
theorem dX7_offerOf_59 : decode cX7_offerOf 59 = .ok (.ireturn, 1) := by decide +kernel
theorem dX7_told_0 : decode cX7_told 0 = .ok (.aload_n 0, 1) := by decide +kernel
theorem dX7_told_1 : decode cX7_told 1 = .ok (.iload_n 1, 1) := by decide +kernel
theorem dX7_told_2 : decode cX7_told 2 = .ok (.invokevirtual 117, 3) := by decide +kernel
theorem dX7_told_5 : decode cX7_told 5 = .ok (.ifCond .eq 15, 3) := by decide +kernel
theorem dX7_told_8 : decode cX7_told 8 = .ok (.iload_n 2, 1) := by decide +kernel
theorem dX7_told_9 : decode cX7_told 9 = .ok (.i2l, 1) := by decide +kernel
theorem dX7_told_10 : decode cX7_told 10 = .ok (.lconst 0, 1) := by decide +kernel
theorem dX7_told_11 : decode cX7_told 11 = .ok (.ldc2_w 120, 3) := by decide +kernel
theorem dX7_told_14 : decode cX7_told 14 = .ok (.invokestatic 68, 3) := by decide +kernel
theorem dX7_told_17 : decode cX7_told 17 = .ok (.ifCond .ne 6, 3) := by decide +kernel
theorem dX7_told_20 : decode cX7_told 20 = .ok (.ldc 87, 2) := by decide +kernel
theorem dX7_told_22 : decode cX7_told 22 = .ok (.ireturn, 1) := by decide +kernel
theorem dX7_told_23 : decode cX7_told 23 = .ok (.iload_n 2, 1) := by decide +kernel
theorem dX7_told_24 : decode cX7_told 24 = .ok (.bipush 6, 2) := by decide +kernel
theorem dX7_told_26 : decode cX7_told 26 = .ok (.if_icmp .ge 12, 3) := by decide +kernel
theorem dX7_told_29 : decode cX7_told 29 = .ok (.aload_n 0, 1) := by decide +kernel
theorem dX7_told_30 : decode cX7_told 30 = .ok (.iload_n 1, 1) := by decide +kernel
theorem dX7_told_31 : decode cX7_told 31 = .ok (.iload_n 2, 1) := by decide +kernel
theorem dX7_told_32 : decode cX7_told 32 = .ok (.invokevirtual 97, 3) := by decide +kernel
theorem dX7_told_35 : decode cX7_told 35 = .ok (.goto 22, 3) := by decide +kernel
theorem dX7_told_38 : decode cX7_told 38 = .ok (.iload_n 2, 1) := by decide +kernel
theorem dX7_told_39 : decode cX7_told 39 = .ok (.bipush 6, 2) := by decide +kernel
theorem dX7_told_41 : decode cX7_told 41 = .ok (.if_icmp .ne 11, 3) := by decide +kernel
theorem dX7_told_44 : decode cX7_told 44 = .ok (.aload_n 0, 1) := by decide +kernel
theorem dX7_told_45 : decode cX7_told 45 = .ok (.iload_n 1, 1) := by decide +kernel
theorem dX7_told_46 : decode cX7_told 46 = .ok (.invokevirtual 110, 3) := by decide +kernel
theorem dX7_told_49 : decode cX7_told 49 = .ok (.goto 8, 3) := by decide +kernel
theorem dX7_told_52 : decode cX7_told 52 = .ok (.aload_n 0, 1) := by decide +kernel
theorem dX7_told_53 : decode cX7_told 53 = .ok (.iload_n 1, 1) := by decide +kernel
theorem dX7_told_54 : decode cX7_told 54 = .ok (.invokevirtual 122, 3) := by decide +kernel
theorem dX7_told_57 : decode cX7_told 57 = .ok (.ireturn, 1) := by decide +kernel
theorem dX7_isOf_0 : decode cX7_isOf 0 = .ok (.iload_n 0, 1) := by decide +kernel
theorem dX7_isOf_1 : decode cX7_isOf 1 = .ok (.iload_n 1, 1) := by decide +kernel
theorem dX7_isOf_2 : decode cX7_isOf 2 = .ok (.if_icmp .eq 27, 3) := by decide +kernel
theorem dX7_isOf_5 : decode cX7_isOf 5 = .ok (.iload_n 1, 1) := by decide +kernel
theorem dX7_isOf_6 : decode cX7_isOf 6 = .ok (.ifCond .eq 23, 3) := by decide +kernel
theorem dX7_isOf_9 : decode cX7_isOf 9 = .ok (.iload_n 1, 1) := by decide +kernel
theorem dX7_isOf_10 : decode cX7_isOf 10 = .ok (.iconst 1, 1) := by decide +kernel
theorem dX7_isOf_11 : decode cX7_isOf 11 = .ok (.if_icmp .ne 8, 3) := by decide +kernel
theorem dX7_isOf_14 : decode cX7_isOf 14 = .ok (.iload_n 0, 1) := by decide +kernel
theorem dX7_isOf_15 : decode cX7_isOf 15 = .ok (.iconst 3, 1) := by decide +kernel
theorem dX7_isOf_16 : decode cX7_isOf 16 = .ok (.if_icmp .eq 13, 3) := by decide +kernel
theorem dX7_isOf_19 : decode cX7_isOf 19 = .ok (.iload_n 1, 1) := by decide +kernel
theorem dX7_isOf_20 : decode cX7_isOf 20 = .ok (.iconst 2, 1) := by decide +kernel
theorem dX7_isOf_21 : decode cX7_isOf 21 = .ok (.if_icmp .ne 12, 3) := by decide +kernel
theorem dX7_isOf_24 : decode cX7_isOf 24 = .ok (.iload_n 0, 1) := by decide +kernel
theorem dX7_isOf_25 : decode cX7_isOf 25 = .ok (.iconst 4, 1) := by decide +kernel
theorem dX7_isOf_26 : decode cX7_isOf 26 = .ok (.if_icmp .ne 7, 3) := by decide +kernel
theorem dX7_isOf_29 : decode cX7_isOf 29 = .ok (.iconst 1, 1) := by decide +kernel
theorem dX7_isOf_30 : decode cX7_isOf 30 = .ok (.goto 4, 3) := by decide +kernel
theorem dX7_isOf_33 : decode cX7_isOf 33 = .ok (.iconst 0, 1) := by decide +kernel
theorem dX7_isOf_34 : decode cX7_isOf 34 = .ok (.ireturn, 1) := by decide +kernel
theorem dX7_as_0 : decode cX7_as 0 = .ok (.aload_n 0, 1) := by decide +kernel
theorem dX7_as_1 : decode cX7_as 1 = .ok (.iload_n 1, 1) := by decide +kernel
theorem dX7_as_2 : decode cX7_as 2 = .ok (.invokevirtual 117, 3) := by decide +kernel
theorem dX7_as_5 : decode cX7_as 5 = .ok (.ifCond .eq 15, 3) := by decide +kernel
theorem dX7_as_8 : decode cX7_as 8 = .ok (.iload_n 2, 1) := by decide +kernel
theorem dX7_as_9 : decode cX7_as 9 = .ok (.i2l, 1) := by decide +kernel
theorem dX7_as_10 : decode cX7_as 10 = .ok (.lconst 0, 1) := by decide +kernel
theorem dX7_as_11 : decode cX7_as 11 = .ok (.ldc2_w 77, 3) := by decide +kernel
theorem dX7_as_14 : decode cX7_as 14 = .ok (.invokestatic 68, 3) := by decide +kernel
theorem dX7_as_17 : decode cX7_as 17 = .ok (.ifCond .ne 6, 3) := by decide +kernel
theorem dX7_as_20 : decode cX7_as 20 = .ok (.ldc 87, 2) := by decide +kernel
theorem dX7_as_22 : decode cX7_as 22 = .ok (.ireturn, 1) := by decide +kernel
theorem dX7_as_23 : decode cX7_as 23 = .ok (.aload_n 0, 1) := by decide +kernel
theorem dX7_as_24 : decode cX7_as 24 = .ok (.iload_n 1, 1) := by decide +kernel
theorem dX7_as_25 : decode cX7_as 25 = .ok (.iconst 0, 1) := by decide +kernel
theorem dX7_as_26 : decode cX7_as 26 = .ok (.invokevirtual 97, 3) := by decide +kernel
theorem dX7_as_29 : decode cX7_as 29 = .ok (.iload_n 2, 1) := by decide +kernel
theorem dX7_as_30 : decode cX7_as 30 = .ok (.invokestatic 125, 3) := by decide +kernel
theorem dX7_as_33 : decode cX7_as 33 = .ok (.ifCond .eq 12, 3) := by decide +kernel
theorem dX7_as_36 : decode cX7_as 36 = .ok (.aload_n 0, 1) := by decide +kernel
theorem dX7_as_37 : decode cX7_as 37 = .ok (.iload_n 1, 1) := by decide +kernel
theorem dX7_as_38 : decode cX7_as 38 = .ok (.iconst 1, 1) := by decide +kernel
theorem dX7_as_39 : decode cX7_as 39 = .ok (.invokevirtual 97, 3) := by decide +kernel
theorem dX7_as_42 : decode cX7_as 42 = .ok (.goto 5, 3) := by decide +kernel
theorem dX7_as_45 : decode cX7_as 45 = .ok (.ldc 129, 2) := by decide +kernel
theorem dX7_as_47 : decode cX7_as 47 = .ok (.ireturn, 1) := by decide +kernel
theorem dX7_turns_0 : decode cX7_turns 0 = .ok (.aload_n 0, 1) := by decide +kernel
theorem dX7_turns_1 : decode cX7_turns 1 = .ok (.iload_n 1, 1) := by decide +kernel
theorem dX7_turns_2 : decode cX7_turns 2 = .ok (.invokevirtual 117, 3) := by decide +kernel
theorem dX7_turns_5 : decode cX7_turns 5 = .ok (.ifCond .eq 30, 3) := by decide +kernel
theorem dX7_turns_8 : decode cX7_turns 8 = .ok (.iload_n 2, 1) := by decide +kernel
theorem dX7_turns_9 : decode cX7_turns 9 = .ok (.i2l, 1) := by decide +kernel
theorem dX7_turns_10 : decode cX7_turns 10 = .ok (.lconst 0, 1) := by decide +kernel
theorem dX7_turns_11 : decode cX7_turns 11 = .ok (.ldc2_w 77, 3) := by decide +kernel
theorem dX7_turns_14 : decode cX7_turns 14 = .ok (.invokestatic 68, 3) := by decide +kernel
theorem dX7_turns_17 : decode cX7_turns 17 = .ok (.ifCond .eq 18, 3) := by decide +kernel
theorem dX7_turns_20 : decode cX7_turns 20 = .ok (.aload_n 0, 1) := by decide +kernel
theorem dX7_turns_21 : decode cX7_turns 21 = .ok (.bipush 18, 2) := by decide +kernel
theorem dX7_turns_23 : decode cX7_turns 23 = .ok (.bipush 6, 2) := by decide +kernel
theorem dX7_turns_25 : decode cX7_turns 25 = .ok (.iload_n 1, 1) := by decide +kernel
theorem dX7_turns_26 : decode cX7_turns 26 = .ok (.imul, 1) := by decide +kernel
theorem dX7_turns_27 : decode cX7_turns 27 = .ok (.iadd, 1) := by decide +kernel
theorem dX7_turns_28 : decode cX7_turns 28 = .ok (.iload_n 2, 1) := by decide +kernel
theorem dX7_turns_29 : decode cX7_turns 29 = .ok (.invokevirtual 130, 3) := by decide +kernel
theorem dX7_turns_32 : decode cX7_turns 32 = .ok (.goto 5, 3) := by decide +kernel
theorem dX7_turns_35 : decode cX7_turns 35 = .ok (.ldc 87, 2) := by decide +kernel
theorem dX7_turns_37 : decode cX7_turns 37 = .ok (.ireturn, 1) := by decide +kernel
theorem dX7_set_0 : decode cX7_set 0 = .ok (.aload_n 0, 1) := by decide +kernel
theorem dX7_set_1 : decode cX7_set 1 = .ok (.iload_n 1, 1) := by decide +kernel
theorem dX7_set_2 : decode cX7_set 2 = .ok (.invokevirtual 117, 3) := by decide +kernel
theorem dX7_set_5 : decode cX7_set 5 = .ok (.ifCond .eq 38, 3) := by decide +kernel
theorem dX7_set_8 : decode cX7_set 8 = .ok (.iload_n 2, 1) := by decide +kernel
theorem dX7_set_9 : decode cX7_set 9 = .ok (.i2l, 1) := by decide +kernel
theorem dX7_set_10 : decode cX7_set 10 = .ok (.lconst 1, 1) := by decide +kernel
theorem dX7_set_11 : decode cX7_set 11 = .ok (.ldc2_w 133, 3) := by decide +kernel
theorem dX7_set_14 : decode cX7_set 14 = .ok (.invokestatic 68, 3) := by decide +kernel
theorem dX7_set_17 : decode cX7_set 17 = .ok (.ifCond .eq 26, 3) := by decide +kernel
theorem dX7_set_20 : decode cX7_set 20 = .ok (.iload_n 3, 1) := by decide +kernel
theorem dX7_set_21 : decode cX7_set 21 = .ok (.i2l, 1) := by decide +kernel
theorem dX7_set_22 : decode cX7_set 22 = .ok (.lconst 0, 1) := by decide +kernel
theorem dX7_set_23 : decode cX7_set 23 = .ok (.iload_n 2, 1) := by decide +kernel
theorem dX7_set_24 : decode cX7_set 24 = .ok (.iconst 2, 1) := by decide +kernel
theorem dX7_set_25 : decode cX7_set 25 = .ok (.if_icmp .ne 9, 3) := by decide +kernel
theorem dX7_set_28 : decode cX7_set 28 = .ok (.ldc2_w 81, 3) := by decide +kernel
theorem dX7_set_31 : decode cX7_set 31 = .ok (.goto 6, 3) := by decide +kernel
theorem dX7_set_34 : decode cX7_set 34 = .ok (.ldc2_w 79, 3) := by decide +kernel
theorem dX7_set_37 : decode cX7_set 37 = .ok (.invokestatic 68, 3) := by decide +kernel
theorem dX7_set_40 : decode cX7_set 40 = .ok (.ifCond .ne 6, 3) := by decide +kernel
theorem dX7_set_43 : decode cX7_set 43 = .ok (.ldc 87, 2) := by decide +kernel
theorem dX7_set_45 : decode cX7_set 45 = .ok (.ireturn, 1) := by decide +kernel
theorem dX7_set_46 : decode cX7_set 46 = .ok (.aload_n 0, 1) := by decide +kernel
theorem dX7_set_47 : decode cX7_set 47 = .ok (.bipush 18, 2) := by decide +kernel
theorem dX7_set_49 : decode cX7_set 49 = .ok (.bipush 6, 2) := by decide +kernel
theorem dX7_set_51 : decode cX7_set 51 = .ok (.iload_n 1, 1) := by decide +kernel
theorem dX7_set_52 : decode cX7_set 52 = .ok (.imul, 1) := by decide +kernel
theorem dX7_set_53 : decode cX7_set 53 = .ok (.iadd, 1) := by decide +kernel
theorem dX7_set_54 : decode cX7_set 54 = .ok (.iload_n 2, 1) := by decide +kernel
theorem dX7_set_55 : decode cX7_set 55 = .ok (.iadd, 1) := by decide +kernel
theorem dX7_set_56 : decode cX7_set 56 = .ok (.iload_n 3, 1) := by decide +kernel
theorem dX7_set_57 : decode cX7_set 57 = .ok (.invokevirtual 130, 3) := by decide +kernel
theorem dX7_set_60 : decode cX7_set 60 = .ok (.ireturn, 1) := by decide +kernel
theorem dX7_daysOf_0 : decode cX7_daysOf 0 = .ok (.iconst 0, 1) := by decide +kernel
theorem dX7_daysOf_1 : decode cX7_daysOf 1 = .ok (.istore_n 2, 1) := by decide +kernel
theorem dX7_daysOf_2 : decode cX7_daysOf 2 = .ok (.iconst 0, 1) := by decide +kernel
theorem dX7_daysOf_3 : decode cX7_daysOf 3 = .ok (.istore_n 3, 1) := by decide +kernel
theorem dX7_daysOf_4 : decode cX7_daysOf 4 = .ok (.iload_n 3, 1) := by decide +kernel
theorem dX7_daysOf_5 : decode cX7_daysOf 5 = .ok (.aload_n 0, 1) := by decide +kernel
theorem dX7_daysOf_6 : decode cX7_daysOf 6 = .ok (.getfield 7, 3) := by decide +kernel
theorem dX7_daysOf_9 : decode cX7_daysOf 9 = .ok (.iconst 0, 1) := by decide +kernel
theorem dX7_daysOf_10 : decode cX7_daysOf 10 = .ok (.iaload, 1) := by decide +kernel
theorem dX7_daysOf_11 : decode cX7_daysOf 11 = .ok (.if_icmp .ge 29, 3) := by decide +kernel
theorem dX7_daysOf_14 : decode cX7_daysOf 14 = .ok (.iload_n 2, 1) := by decide +kernel
theorem dX7_daysOf_15 : decode cX7_daysOf 15 = .ok (.aload_n 0, 1) := by decide +kernel
theorem dX7_daysOf_16 : decode cX7_daysOf 16 = .ok (.iload_n 3, 1) := by decide +kernel
theorem dX7_daysOf_17 : decode cX7_daysOf 17 = .ok (.iconst 4, 1) := by decide +kernel
theorem dX7_daysOf_18 : decode cX7_daysOf 18 = .ok (.invokevirtual 97, 3) := by decide +kernel
theorem dX7_daysOf_21 : decode cX7_daysOf 21 = .ok (.iload_n 1, 1) := by decide +kernel
theorem dX7_daysOf_22 : decode cX7_daysOf 22 = .ok (.if_icmp .ne 9, 3) := by decide +kernel
theorem dX7_daysOf_25 : decode cX7_daysOf 25 = .ok (.iconst 1, 1) := by decide +kernel
theorem dX7_daysOf_26 : decode cX7_daysOf 26 = .ok (.iload_n 3, 1) := by decide +kernel
theorem dX7_daysOf_27 : decode cX7_daysOf 27 = .ok (.ishl, 1) := by decide +kernel
theorem dX7_daysOf_28 : decode cX7_daysOf 28 = .ok (.goto 4, 3) := by decide +kernel
theorem dX7_daysOf_31 : decode cX7_daysOf 31 = .ok (.iconst 0, 1) := by decide +kernel
theorem dX7_daysOf_32 : decode cX7_daysOf 32 = .ok (.ior, 1) := by decide +kernel
theorem dX7_daysOf_33 : decode cX7_daysOf 33 = .ok (.istore_n 2, 1) := by decide +kernel
theorem dX7_daysOf_34 : decode cX7_daysOf 34 = .ok (.iinc 3 1, 3) := by decide +kernel
theorem dX7_daysOf_37 : decode cX7_daysOf 37 = .ok (.goto (-33), 3) := by decide +kernel
theorem dX7_daysOf_40 : decode cX7_daysOf 40 = .ok (.iload_n 2, 1) := by decide +kernel
theorem dX7_daysOf_41 : decode cX7_daysOf 41 = .ok (.ireturn, 1) := by decide +kernel
theorem dX7_manyIn_0 : decode cX7_manyIn 0 = .ok (.iconst 0, 1) := by decide +kernel
theorem dX7_manyIn_1 : decode cX7_manyIn 1 = .ok (.istore_n 1, 1) := by decide +kernel
theorem dX7_manyIn_2 : decode cX7_manyIn 2 = .ok (.iload_n 0, 1) := by decide +kernel
theorem dX7_manyIn_3 : decode cX7_manyIn 3 = .ok (.istore_n 2, 1) := by decide +kernel
theorem dX7_manyIn_4 : decode cX7_manyIn 4 = .ok (.iload_n 2, 1) := by decide +kernel
theorem dX7_manyIn_5 : decode cX7_manyIn 5 = .ok (.ifCond .eq 15, 3) := by decide +kernel
theorem dX7_manyIn_8 : decode cX7_manyIn 8 = .ok (.iinc 1 1, 3) := by decide +kernel
theorem dX7_manyIn_11 : decode cX7_manyIn 11 = .ok (.iload_n 2, 1) := by decide +kernel
theorem dX7_manyIn_12 : decode cX7_manyIn 12 = .ok (.iload_n 2, 1) := by decide +kernel
theorem dX7_manyIn_13 : decode cX7_manyIn 13 = .ok (.iconst 1, 1) := by decide +kernel
theorem dX7_manyIn_14 : decode cX7_manyIn 14 = .ok (.isub, 1) := by decide +kernel
theorem dX7_manyIn_15 : decode cX7_manyIn 15 = .ok (.iand, 1) := by decide +kernel
theorem dX7_manyIn_16 : decode cX7_manyIn 16 = .ok (.istore_n 2, 1) := by decide +kernel
theorem dX7_manyIn_17 : decode cX7_manyIn 17 = .ok (.goto (-13), 3) := by decide +kernel
theorem dX7_manyIn_20 : decode cX7_manyIn 20 = .ok (.iload_n 1, 1) := by decide +kernel
theorem dX7_manyIn_21 : decode cX7_manyIn 21 = .ok (.ireturn, 1) := by decide +kernel
theorem dX7_one_0 : decode cX7_one 0 = .ok (.iload_n 1, 1) := by decide +kernel
theorem dX7_one_1 : decode cX7_one 1 = .ok (.invokestatic 83, 3) := by decide +kernel
theorem dX7_one_4 : decode cX7_one 4 = .ok (.ifCond .eq 15, 3) := by decide +kernel
theorem dX7_one_7 : decode cX7_one 7 = .ok (.iload_n 2, 1) := by decide +kernel
theorem dX7_one_8 : decode cX7_one 8 = .ok (.i2l, 1) := by decide +kernel
theorem dX7_one_9 : decode cX7_one 9 = .ok (.lconst 0, 1) := by decide +kernel
theorem dX7_one_10 : decode cX7_one 10 = .ok (.ldc2_w 135, 3) := by decide +kernel
theorem dX7_one_13 : decode cX7_one 13 = .ok (.invokestatic 68, 3) := by decide +kernel
theorem dX7_one_16 : decode cX7_one 16 = .ok (.ifCond .ne 6, 3) := by decide +kernel
theorem dX7_one_19 : decode cX7_one 19 = .ok (.ldc 87, 2) := by decide +kernel
theorem dX7_one_21 : decode cX7_one 21 = .ok (.ireturn, 1) := by decide +kernel
theorem dX7_one_22 : decode cX7_one 22 = .ok (.iload_n 2, 1) := by decide +kernel
theorem dX7_one_23 : decode cX7_one 23 = .ok (.ifCond .ne 15, 3) := by decide +kernel
theorem dX7_one_26 : decode cX7_one 26 = .ok (.aload_n 0, 1) := by decide +kernel
theorem dX7_one_27 : decode cX7_one 27 = .ok (.getfield 7, 3) := by decide +kernel
theorem dX7_one_30 : decode cX7_one 30 = .ok (.bipush 6, 2) := by decide +kernel
theorem dX7_one_32 : decode cX7_one 32 = .ok (.iload_n 1, 1) := by decide +kernel
theorem dX7_one_33 : decode cX7_one 33 = .ok (.iadd, 1) := by decide +kernel
theorem dX7_one_34 : decode cX7_one 34 = .ok (.iaload, 1) := by decide +kernel
theorem dX7_one_35 : decode cX7_one 35 = .ok (.goto 25, 3) := by decide +kernel
theorem dX7_one_38 : decode cX7_one 38 = .ok (.iload_n 2, 1) := by decide +kernel
theorem dX7_one_39 : decode cX7_one 39 = .ok (.iconst 1, 1) := by decide +kernel
theorem dX7_one_40 : decode cX7_one 40 = .ok (.if_icmp .ne 15, 3) := by decide +kernel
theorem dX7_one_43 : decode cX7_one 43 = .ok (.aload_n 0, 1) := by decide +kernel
theorem dX7_one_44 : decode cX7_one 44 = .ok (.getfield 7, 3) := by decide +kernel
theorem dX7_one_47 : decode cX7_one 47 = .ok (.bipush 12, 2) := by decide +kernel
theorem dX7_one_49 : decode cX7_one 49 = .ok (.iload_n 1, 1) := by decide +kernel
theorem dX7_one_50 : decode cX7_one 50 = .ok (.iadd, 1) := by decide +kernel
theorem dX7_one_51 : decode cX7_one 51 = .ok (.iaload, 1) := by decide +kernel
theorem dX7_one_52 : decode cX7_one 52 = .ok (.goto 8, 3) := by decide +kernel
theorem dX7_one_55 : decode cX7_one 55 = .ok (.aload_n 0, 1) := by decide +kernel
theorem dX7_one_56 : decode cX7_one 56 = .ok (.iload_n 1, 1) := by decide +kernel
theorem dX7_one_57 : decode cX7_one 57 = .ok (.invokevirtual 137, 3) := by decide +kernel
theorem dX7_one_60 : decode cX7_one 60 = .ok (.ireturn, 1) := by decide +kernel
theorem dX7_gives_0 : decode cX7_gives 0 = .ok (.iload_n 1, 1) := by decide +kernel
theorem dX7_gives_1 : decode cX7_gives 1 = .ok (.invokestatic 83, 3) := by decide +kernel
theorem dX7_gives_4 : decode cX7_gives 4 = .ok (.ifCond .eq 35, 3) := by decide +kernel
theorem dX7_gives_7 : decode cX7_gives 7 = .ok (.iload_n 2, 1) := by decide +kernel
theorem dX7_gives_8 : decode cX7_gives 8 = .ok (.i2l, 1) := by decide +kernel
theorem dX7_gives_9 : decode cX7_gives 9 = .ok (.lconst 0, 1) := by decide +kernel
theorem dX7_gives_10 : decode cX7_gives 10 = .ok (.lconst 1, 1) := by decide +kernel
theorem dX7_gives_11 : decode cX7_gives 11 = .ok (.invokestatic 68, 3) := by decide +kernel
theorem dX7_gives_14 : decode cX7_gives 14 = .ok (.ifCond .eq 25, 3) := by decide +kernel
theorem dX7_gives_17 : decode cX7_gives 17 = .ok (.iload_n 3, 1) := by decide +kernel
theorem dX7_gives_18 : decode cX7_gives 18 = .ok (.i2l, 1) := by decide +kernel
theorem dX7_gives_19 : decode cX7_gives 19 = .ok (.lconst 0, 1) := by decide +kernel
theorem dX7_gives_20 : decode cX7_gives 20 = .ok (.iload_n 2, 1) := by decide +kernel
theorem dX7_gives_21 : decode cX7_gives 21 = .ok (.ifCond .ne 9, 3) := by decide +kernel
theorem dX7_gives_24 : decode cX7_gives 24 = .ok (.ldc2_w 140, 3) := by decide +kernel
theorem dX7_gives_27 : decode cX7_gives 27 = .ok (.goto 6, 3) := by decide +kernel
theorem dX7_gives_30 : decode cX7_gives 30 = .ok (.ldc2_w 81, 3) := by decide +kernel
theorem dX7_gives_33 : decode cX7_gives 33 = .ok (.invokestatic 68, 3) := by decide +kernel
theorem dX7_gives_36 : decode cX7_gives 36 = .ok (.ifCond .ne 6, 3) := by decide +kernel
theorem dX7_gives_39 : decode cX7_gives 39 = .ok (.ldc 87, 2) := by decide +kernel
theorem dX7_gives_41 : decode cX7_gives 41 = .ok (.ireturn, 1) := by decide +kernel
theorem dX7_gives_42 : decode cX7_gives 42 = .ok (.aload_n 0, 1) := by decide +kernel
theorem dX7_gives_43 : decode cX7_gives 43 = .ok (.iload_n 2, 1) := by decide +kernel
theorem dX7_gives_44 : decode cX7_gives 44 = .ok (.ifCond .ne 8, 3) := by decide +kernel
theorem dX7_gives_47 : decode cX7_gives 47 = .ok (.bipush 6, 2) := by decide +kernel
theorem dX7_gives_49 : decode cX7_gives 49 = .ok (.goto 5, 3) := by decide +kernel
theorem dX7_gives_52 : decode cX7_gives 52 = .ok (.bipush 12, 2) := by decide +kernel
theorem dX7_gives_54 : decode cX7_gives 54 = .ok (.iload_n 1, 1) := by decide +kernel
theorem dX7_gives_55 : decode cX7_gives 55 = .ok (.iadd, 1) := by decide +kernel
theorem dX7_gives_56 : decode cX7_gives 56 = .ok (.iload_n 3, 1) := by decide +kernel
theorem dX7_gives_57 : decode cX7_gives 57 = .ok (.invokevirtual 130, 3) := by decide +kernel
theorem dX7_gives_60 : decode cX7_gives 60 = .ok (.ireturn, 1) := by decide +kernel
theorem dX7_offer_0 : decode cX7_offer 0 = .ok (.iload_n 1, 1) := by decide +kernel
theorem dX7_offer_1 : decode cX7_offer 1 = .ok (.invokestatic 83, 3) := by decide +kernel
theorem dX7_offer_4 : decode cX7_offer 4 = .ok (.ifCond .eq 20, 3) := by decide +kernel
theorem dX7_offer_7 : decode cX7_offer 7 = .ok (.aload_n 0, 1) := by decide +kernel
theorem dX7_offer_8 : decode cX7_offer 8 = .ok (.iload_n 2, 1) := by decide +kernel
theorem dX7_offer_9 : decode cX7_offer 9 = .ok (.invokevirtual 117, 3) := by decide +kernel
theorem dX7_offer_12 : decode cX7_offer 12 = .ok (.ifCond .eq 12, 3) := by decide +kernel
theorem dX7_offer_15 : decode cX7_offer 15 = .ok (.aload_n 0, 1) := by decide +kernel
theorem dX7_offer_16 : decode cX7_offer 16 = .ok (.iload_n 1, 1) := by decide +kernel
theorem dX7_offer_17 : decode cX7_offer 17 = .ok (.iload_n 2, 1) := by decide +kernel
theorem dX7_offer_18 : decode cX7_offer 18 = .ok (.invokevirtual 142, 3) := by decide +kernel
theorem dX7_offer_21 : decode cX7_offer 21 = .ok (.goto 5, 3) := by decide +kernel
theorem dX7_offer_24 : decode cX7_offer 24 = .ok (.ldc 87, 2) := by decide +kernel
theorem dX7_offer_26 : decode cX7_offer 26 = .ok (.ireturn, 1) := by decide +kernel
theorem dX7_deal_0 : decode cX7_deal 0 = .ok (.iload_n 1, 1) := by decide +kernel
theorem dX7_deal_1 : decode cX7_deal 1 = .ok (.i2l, 1) := by decide +kernel
theorem dX7_deal_2 : decode cX7_deal 2 = .ok (.lconst 1, 1) := by decide +kernel
theorem dX7_deal_3 : decode cX7_deal 3 = .ok (.ldc2_w 145, 3) := by decide +kernel
theorem dX7_deal_6 : decode cX7_deal 6 = .ok (.invokestatic 68, 3) := by decide +kernel
theorem dX7_deal_9 : decode cX7_deal 9 = .ok (.ifCond .ne 6, 3) := by decide +kernel
theorem dX7_deal_12 : decode cX7_deal 12 = .ok (.ldc 87, 2) := by decide +kernel
theorem dX7_deal_14 : decode cX7_deal 14 = .ok (.ireturn, 1) := by decide +kernel
theorem dX7_deal_15 : decode cX7_deal 15 = .ok (.iconst 0, 1) := by decide +kernel
theorem dX7_deal_16 : decode cX7_deal 16 = .ok (.istore_n 2, 1) := by decide +kernel
theorem dX7_deal_17 : decode cX7_deal 17 = .ok (.iload_n 2, 1) := by decide +kernel
theorem dX7_deal_18 : decode cX7_deal 18 = .ok (.iload_n 1, 1) := by decide +kernel
theorem dX7_deal_19 : decode cX7_deal 19 = .ok (.if_icmp .ge 62, 3) := by decide +kernel
theorem dX7_deal_22 : decode cX7_deal 22 = .ok (.aload_n 0, 1) := by decide +kernel
theorem dX7_deal_23 : decode cX7_deal 23 = .ok (.getfield 7, 3) := by decide +kernel
theorem dX7_deal_26 : decode cX7_deal 26 = .ok (.iconst 0, 1) := by decide +kernel
theorem dX7_deal_27 : decode cX7_deal 27 = .ok (.iaload, 1) := by decide +kernel
theorem dX7_deal_28 : decode cX7_deal 28 = .ok (.bipush 10, 2) := by decide +kernel
theorem dX7_deal_30 : decode cX7_deal 30 = .ok (.if_icmp .ge 51, 3) := by decide +kernel
theorem dX7_deal_33 : decode cX7_deal 33 = .ok (.aload_n 0, 1) := by decide +kernel
theorem dX7_deal_34 : decode cX7_deal 34 = .ok (.invokevirtual 147, 3) := by decide +kernel
theorem dX7_deal_37 : decode cX7_deal 37 = .ok (.bipush 6, 2) := by decide +kernel
theorem dX7_deal_39 : decode cX7_deal 39 = .ok (.irem, 1) := by decide +kernel
theorem dX7_deal_40 : decode cX7_deal 40 = .ok (.istore_n 3, 1) := by decide +kernel
theorem dX7_deal_41 : decode cX7_deal 41 = .ok (.aload_n 0, 1) := by decide +kernel
theorem dX7_deal_42 : decode cX7_deal 42 = .ok (.invokevirtual 147, 3) := by decide +kernel
theorem dX7_deal_45 : decode cX7_deal 45 = .ok (.bipush 100, 2) := by decide +kernel
theorem dX7_deal_47 : decode cX7_deal 47 = .ok (.irem, 1) := by decide +kernel
theorem dX7_deal_48 : decode cX7_deal 48 = .ok (.istore 4, 2) := by decide +kernel
theorem dX7_deal_50 : decode cX7_deal 50 = .ok (.aload_n 0, 1) := by decide +kernel
theorem dX7_deal_51 : decode cX7_deal 51 = .ok (.invokevirtual 147, 3) := by decide +kernel
theorem dX7_deal_54 : decode cX7_deal 54 = .ok (.bipush 10, 2) := by decide +kernel
theorem dX7_deal_56 : decode cX7_deal 56 = .ok (.irem, 1) := by decide +kernel
theorem dX7_deal_57 : decode cX7_deal 57 = .ok (.istore 5, 2) := by decide +kernel
theorem dX7_deal_59 : decode cX7_deal 59 = .ok (.aload_n 0, 1) := by decide +kernel
theorem dX7_deal_60 : decode cX7_deal 60 = .ok (.iload_n 3, 1) := by decide +kernel
theorem dX7_deal_61 : decode cX7_deal 61 = .ok (.iload 4, 2) := by decide +kernel
theorem dX7_deal_63 : decode cX7_deal 63 = .ok (.iload 5, 2) := by decide +kernel
theorem dX7_deal_65 : decode cX7_deal 65 = .ok (.aload_n 0, 1) := by decide +kernel
theorem dX7_deal_66 : decode cX7_deal 66 = .ok (.invokevirtual 147, 3) := by decide +kernel
theorem dX7_deal_69 : decode cX7_deal 69 = .ok (.bipush 6, 2) := by decide +kernel
theorem dX7_deal_71 : decode cX7_deal 71 = .ok (.irem, 1) := by decide +kernel
theorem dX7_deal_72 : decode cX7_deal 72 = .ok (.invokevirtual 89, 3) := by decide +kernel
theorem dX7_deal_75 : decode cX7_deal 75 = .ok (.iinc 2 1, 3) := by decide +kernel
theorem dX7_deal_78 : decode cX7_deal 78 = .ok (.goto (-61), 3) := by decide +kernel
theorem dX7_deal_81 : decode cX7_deal 81 = .ok (.iload_n 2, 1) := by decide +kernel
theorem dX7_deal_82 : decode cX7_deal 82 = .ok (.ireturn, 1) := by decide +kernel
theorem dX7_seed_0 : decode cX7_seed 0 = .ok (.aload_n 0, 1) := by decide +kernel
theorem dX7_seed_1 : decode cX7_seed 1 = .ok (.iconst 5, 1) := by decide +kernel
theorem dX7_seed_2 : decode cX7_seed 2 = .ok (.iload_n 1, 1) := by decide +kernel
theorem dX7_seed_3 : decode cX7_seed 3 = .ok (.invokevirtual 130, 3) := by decide +kernel
theorem dX7_seed_6 : decode cX7_seed 6 = .ok (.ireturn, 1) := by decide +kernel
theorem dX7_sells_0 : decode cX7_sells 0 = .ok (.aload_n 0, 1) := by decide +kernel
theorem dX7_sells_1 : decode cX7_sells 1 = .ok (.iload_n 1, 1) := by decide +kernel
theorem dX7_sells_2 : decode cX7_sells 2 = .ok (.iconst 4, 1) := by decide +kernel
theorem dX7_sells_3 : decode cX7_sells 3 = .ok (.invokevirtual 97, 3) := by decide +kernel
theorem dX7_sells_6 : decode cX7_sells 6 = .ok (.istore 4, 2) := by decide +kernel
theorem dX7_sells_8 : decode cX7_sells 8 = .ok (.aload_n 0, 1) := by decide +kernel
theorem dX7_sells_9 : decode cX7_sells 9 = .ok (.getfield 7, 3) := by decide +kernel
theorem dX7_sells_12 : decode cX7_sells 12 = .ok (.bipush 6, 2) := by decide +kernel
theorem dX7_sells_14 : decode cX7_sells 14 = .ok (.iload_n 2, 1) := by decide +kernel
theorem dX7_sells_15 : decode cX7_sells 15 = .ok (.iadd, 1) := by decide +kernel
theorem dX7_sells_16 : decode cX7_sells 16 = .ok (.dup2, 1) := by decide +kernel
theorem dX7_sells_17 : decode cX7_sells 17 = .ok (.iaload, 1) := by decide +kernel
theorem dX7_sells_18 : decode cX7_sells 18 = .ok (.iload_n 3, 1) := by decide +kernel
theorem dX7_sells_19 : decode cX7_sells 19 = .ok (.isub, 1) := by decide +kernel
theorem dX7_sells_20 : decode cX7_sells 20 = .ok (.iastore, 1) := by decide +kernel
theorem dX7_sells_21 : decode cX7_sells 21 = .ok (.aload_n 0, 1) := by decide +kernel
theorem dX7_sells_22 : decode cX7_sells 22 = .ok (.getfield 7, 3) := by decide +kernel
theorem dX7_sells_25 : decode cX7_sells 25 = .ok (.bipush 6, 2) := by decide +kernel
theorem dX7_sells_27 : decode cX7_sells 27 = .ok (.iload 4, 2) := by decide +kernel
theorem dX7_sells_29 : decode cX7_sells 29 = .ok (.iadd, 1) := by decide +kernel
theorem dX7_sells_30 : decode cX7_sells 30 = .ok (.iaload, 1) := by decide +kernel
theorem dX7_sells_31 : decode cX7_sells 31 = .ok (.iload_n 3, 1) := by decide +kernel
theorem dX7_sells_32 : decode cX7_sells 32 = .ok (.iadd, 1) := by decide +kernel
theorem dX7_sells_33 : decode cX7_sells 33 = .ok (.istore 5, 2) := by decide +kernel
theorem dX7_sells_35 : decode cX7_sells 35 = .ok (.aload_n 0, 1) := by decide +kernel
theorem dX7_sells_36 : decode cX7_sells 36 = .ok (.getfield 7, 3) := by decide +kernel
theorem dX7_sells_39 : decode cX7_sells 39 = .ok (.bipush 6, 2) := by decide +kernel
theorem dX7_sells_41 : decode cX7_sells 41 = .ok (.iload 4, 2) := by decide +kernel
theorem dX7_sells_43 : decode cX7_sells 43 = .ok (.iadd, 1) := by decide +kernel
theorem dX7_sells_44 : decode cX7_sells 44 = .ok (.iload 5, 2) := by decide +kernel
theorem dX7_sells_46 : decode cX7_sells 46 = .ok (.sipush 9999, 3) := by decide +kernel
theorem dX7_sells_49 : decode cX7_sells 49 = .ok (.if_icmp .le 9, 3) := by decide +kernel
theorem dX7_sells_52 : decode cX7_sells 52 = .ok (.sipush 9999, 3) := by decide +kernel
theorem dX7_sells_55 : decode cX7_sells 55 = .ok (.goto 5, 3) := by decide +kernel
theorem dX7_sells_58 : decode cX7_sells 58 = .ok (.iload 5, 2) := by decide +kernel
theorem dX7_sells_60 : decode cX7_sells 60 = .ok (.iastore, 1) := by decide +kernel
theorem dX7_sells_61 : decode cX7_sells 61 = .ok (.aload_n 0, 1) := by decide +kernel
theorem dX7_sells_62 : decode cX7_sells 62 = .ok (.getfield 7, 3) := by decide +kernel
theorem dX7_sells_65 : decode cX7_sells 65 = .ok (.iconst 4, 1) := by decide +kernel
theorem dX7_sells_66 : decode cX7_sells 66 = .ok (.dup2, 1) := by decide +kernel
theorem dX7_sells_67 : decode cX7_sells 67 = .ok (.iaload, 1) := by decide +kernel
theorem dX7_sells_68 : decode cX7_sells 68 = .ok (.iload 5, 2) := by decide +kernel
theorem dX7_sells_70 : decode cX7_sells 70 = .ok (.sipush 9999, 3) := by decide +kernel
theorem dX7_sells_73 : decode cX7_sells 73 = .ok (.if_icmp .le 12, 3) := by decide +kernel
theorem dX7_sells_76 : decode cX7_sells 76 = .ok (.iload 5, 2) := by decide +kernel
theorem dX7_sells_78 : decode cX7_sells 78 = .ok (.sipush 9999, 3) := by decide +kernel
theorem dX7_sells_81 : decode cX7_sells 81 = .ok (.isub, 1) := by decide +kernel
theorem dX7_sells_82 : decode cX7_sells 82 = .ok (.goto 4, 3) := by decide +kernel
theorem dX7_sells_85 : decode cX7_sells 85 = .ok (.iconst 0, 1) := by decide +kernel
theorem dX7_sells_86 : decode cX7_sells 86 = .ok (.iadd, 1) := by decide +kernel
theorem dX7_sells_87 : decode cX7_sells 87 = .ok (.iastore, 1) := by decide +kernel
theorem dX7_sells_88 : decode cX7_sells 88 = .ok (.aload_n 0, 1) := by decide +kernel
theorem dX7_sells_89 : decode cX7_sells 89 = .ok (.iload_n 1, 1) := by decide +kernel
theorem dX7_sells_90 : decode cX7_sells 90 = .ok (.iconst 4, 1) := by decide +kernel
theorem dX7_sells_91 : decode cX7_sells 91 = .ok (.iload_n 2, 1) := by decide +kernel
theorem dX7_sells_92 : decode cX7_sells 92 = .ok (.invokevirtual 73, 3) := by decide +kernel
theorem dX7_sells_95 : decode cX7_sells 95 = .ok (.aload_n 0, 1) := by decide +kernel
theorem dX7_sells_96 : decode cX7_sells 96 = .ok (.iload_n 1, 1) := by decide +kernel
theorem dX7_sells_97 : decode cX7_sells 97 = .ok (.iconst 5, 1) := by decide +kernel
theorem dX7_sells_98 : decode cX7_sells 98 = .ok (.aload_n 0, 1) := by decide +kernel
theorem dX7_sells_99 : decode cX7_sells 99 = .ok (.iload_n 1, 1) := by decide +kernel
theorem dX7_sells_100 : decode cX7_sells 100 = .ok (.iconst 5, 1) := by decide +kernel
theorem dX7_sells_101 : decode cX7_sells 101 = .ok (.invokevirtual 97, 3) := by decide +kernel
theorem dX7_sells_104 : decode cX7_sells 104 = .ok (.iconst 1, 1) := by decide +kernel
theorem dX7_sells_105 : decode cX7_sells 105 = .ok (.iload_n 2, 1) := by decide +kernel
theorem dX7_sells_106 : decode cX7_sells 106 = .ok (.ishl, 1) := by decide +kernel
theorem dX7_sells_107 : decode cX7_sells 107 = .ok (.ior, 1) := by decide +kernel
theorem dX7_sells_108 : decode cX7_sells 108 = .ok (.invokevirtual 73, 3) := by decide +kernel
theorem dX7_sells_111 : decode cX7_sells 111 = .ok (.aload_n 0, 1) := by decide +kernel
theorem dX7_sells_112 : decode cX7_sells 112 = .ok (.getfield 7, 3) := by decide +kernel
theorem dX7_sells_115 : decode cX7_sells 115 = .ok (.iconst 3, 1) := by decide +kernel
theorem dX7_sells_116 : decode cX7_sells 116 = .ok (.dup2, 1) := by decide +kernel
theorem dX7_sells_117 : decode cX7_sells 117 = .ok (.iaload, 1) := by decide +kernel
theorem dX7_sells_118 : decode cX7_sells 118 = .ok (.iconst 1, 1) := by decide +kernel
theorem dX7_sells_119 : decode cX7_sells 119 = .ok (.iadd, 1) := by decide +kernel
theorem dX7_sells_120 : decode cX7_sells 120 = .ok (.iastore, 1) := by decide +kernel
theorem dX7_sells_121 : decode cX7_sells 121 = .ok (.return_, 1) := by decide +kernel
theorem dX7_sale_0 : decode cX7_sale 0 = .ok (.aload_n 0, 1) := by decide +kernel
theorem dX7_sale_1 : decode cX7_sale 1 = .ok (.iload_n 1, 1) := by decide +kernel
theorem dX7_sale_2 : decode cX7_sale 2 = .ok (.invokevirtual 117, 3) := by decide +kernel
theorem dX7_sale_5 : decode cX7_sale 5 = .ok (.ifCond .eq 22, 3) := by decide +kernel
theorem dX7_sale_8 : decode cX7_sale 8 = .ok (.iload_n 2, 1) := by decide +kernel
theorem dX7_sale_9 : decode cX7_sale 9 = .ok (.invokestatic 83, 3) := by decide +kernel
theorem dX7_sale_12 : decode cX7_sale 12 = .ok (.ifCond .eq 15, 3) := by decide +kernel
theorem dX7_sale_15 : decode cX7_sale 15 = .ok (.iload_n 3, 1) := by decide +kernel
theorem dX7_sale_16 : decode cX7_sale 16 = .ok (.i2l, 1) := by decide +kernel
theorem dX7_sale_17 : decode cX7_sale 17 = .ok (.lconst 0, 1) := by decide +kernel
theorem dX7_sale_18 : decode cX7_sale 18 = .ok (.ldc2_w 140, 3) := by decide +kernel
theorem dX7_sale_21 : decode cX7_sale 21 = .ok (.invokestatic 68, 3) := by decide +kernel
theorem dX7_sale_24 : decode cX7_sale 24 = .ok (.ifCond .ne 6, 3) := by decide +kernel
theorem dX7_sale_27 : decode cX7_sale 27 = .ok (.ldc 87, 2) := by decide +kernel
theorem dX7_sale_29 : decode cX7_sale 29 = .ok (.ireturn, 1) := by decide +kernel
theorem dX7_sale_30 : decode cX7_sale 30 = .ok (.aload_n 0, 1) := by decide +kernel
theorem dX7_sale_31 : decode cX7_sale 31 = .ok (.iload_n 1, 1) := by decide +kernel
theorem dX7_sale_32 : decode cX7_sale 32 = .ok (.iconst 4, 1) := by decide +kernel
theorem dX7_sale_33 : decode cX7_sale 33 = .ok (.invokevirtual 97, 3) := by decide +kernel
theorem dX7_sale_36 : decode cX7_sale 36 = .ok (.iload_n 2, 1) := by decide +kernel
theorem dX7_sale_37 : decode cX7_sale 37 = .ok (.if_icmp .eq 16, 3) := by decide +kernel
theorem dX7_sale_40 : decode cX7_sale 40 = .ok (.aload_n 0, 1) := by decide +kernel
theorem dX7_sale_41 : decode cX7_sale 41 = .ok (.getfield 7, 3) := by decide +kernel
theorem dX7_sale_44 : decode cX7_sale 44 = .ok (.bipush 6, 2) := by decide +kernel
theorem dX7_sale_46 : decode cX7_sale 46 = .ok (.iload_n 2, 1) := by decide +kernel
theorem dX7_sale_47 : decode cX7_sale 47 = .ok (.iadd, 1) := by decide +kernel
theorem dX7_sale_48 : decode cX7_sale 48 = .ok (.iaload, 1) := by decide +kernel
theorem dX7_sale_49 : decode cX7_sale 49 = .ok (.iload_n 3, 1) := by decide +kernel
theorem dX7_sale_50 : decode cX7_sale 50 = .ok (.if_icmp .ge 6, 3) := by decide +kernel
theorem dX7_sale_53 : decode cX7_sale 53 = .ok (.ldc 151, 2) := by decide +kernel
theorem dX7_sale_55 : decode cX7_sale 55 = .ok (.ireturn, 1) := by decide +kernel
theorem dX7_sale_56 : decode cX7_sale 56 = .ok (.aload_n 0, 1) := by decide +kernel
theorem dX7_sale_57 : decode cX7_sale 57 = .ok (.iload_n 1, 1) := by decide +kernel
theorem dX7_sale_58 : decode cX7_sale 58 = .ok (.iload_n 2, 1) := by decide +kernel
theorem dX7_sale_59 : decode cX7_sale 59 = .ok (.iload_n 3, 1) := by decide +kernel
theorem dX7_sale_60 : decode cX7_sale 60 = .ok (.invokevirtual 152, 3) := by decide +kernel
theorem dX7_sale_63 : decode cX7_sale 63 = .ok (.aload_n 0, 1) := by decide +kernel
theorem dX7_sale_64 : decode cX7_sale 64 = .ok (.getfield 7, 3) := by decide +kernel
theorem dX7_sale_67 : decode cX7_sale 67 = .ok (.iconst 3, 1) := by decide +kernel
theorem dX7_sale_68 : decode cX7_sale 68 = .ok (.iaload, 1) := by decide +kernel
theorem dX7_sale_69 : decode cX7_sale 69 = .ok (.ireturn, 1) := by decide +kernel
theorem dX7_bidder_0 : decode cX7_bidder 0 = .ok (.iconst (-1), 1) := by decide +kernel
theorem dX7_bidder_1 : decode cX7_bidder 1 = .ok (.istore_n 2, 1) := by decide +kernel
theorem dX7_bidder_2 : decode cX7_bidder 2 = .ok (.iconst 0, 1) := by decide +kernel
theorem dX7_bidder_3 : decode cX7_bidder 3 = .ok (.istore_n 3, 1) := by decide +kernel
theorem dX7_bidder_4 : decode cX7_bidder 4 = .ok (.iconst 0, 1) := by decide +kernel
theorem dX7_bidder_5 : decode cX7_bidder 5 = .ok (.istore 4, 2) := by decide +kernel
theorem dX7_bidder_7 : decode cX7_bidder 7 = .ok (.iload 4, 2) := by decide +kernel
theorem dX7_bidder_9 : decode cX7_bidder 9 = .ok (.bipush 6, 2) := by decide +kernel
theorem dX7_bidder_11 : decode cX7_bidder 11 = .ok (.if_icmp .ge 54, 3) := by decide +kernel
theorem dX7_bidder_14 : decode cX7_bidder 14 = .ok (.aload_n 0, 1) := by decide +kernel
theorem dX7_bidder_15 : decode cX7_bidder 15 = .ok (.iload_n 1, 1) := by decide +kernel
theorem dX7_bidder_16 : decode cX7_bidder 16 = .ok (.iconst 4, 1) := by decide +kernel
theorem dX7_bidder_17 : decode cX7_bidder 17 = .ok (.invokevirtual 97, 3) := by decide +kernel
theorem dX7_bidder_20 : decode cX7_bidder 20 = .ok (.iload 4, 2) := by decide +kernel
theorem dX7_bidder_22 : decode cX7_bidder 22 = .ok (.if_icmp .ne 7, 3) := by decide +kernel
theorem dX7_bidder_25 : decode cX7_bidder 25 = .ok (.iconst (-1), 1) := by decide +kernel
theorem dX7_bidder_26 : decode cX7_bidder 26 = .ok (.goto 10, 3) := by decide +kernel
theorem dX7_bidder_29 : decode cX7_bidder 29 = .ok (.aload_n 0, 1) := by decide +kernel
theorem dX7_bidder_30 : decode cX7_bidder 30 = .ok (.iload 4, 2) := by decide +kernel
theorem dX7_bidder_32 : decode cX7_bidder 32 = .ok (.iload_n 1, 1) := by decide +kernel
theorem dX7_bidder_33 : decode cX7_bidder 33 = .ok (.invokevirtual 142, 3) := by decide +kernel
theorem dX7_bidder_36 : decode cX7_bidder 36 = .ok (.istore 5, 2) := by decide +kernel
theorem dX7_bidder_38 : decode cX7_bidder 38 = .ok (.iload 5, 2) := by decide +kernel
theorem dX7_bidder_40 : decode cX7_bidder 40 = .ok (.ifCond .lt 19, 3) := by decide +kernel
theorem dX7_bidder_43 : decode cX7_bidder 43 = .ok (.iload_n 2, 1) := by decide +kernel
theorem dX7_bidder_44 : decode cX7_bidder 44 = .ok (.ifCond .lt 9, 3) := by decide +kernel
theorem dX7_bidder_47 : decode cX7_bidder 47 = .ok (.iload 5, 2) := by decide +kernel
theorem dX7_bidder_49 : decode cX7_bidder 49 = .ok (.iload_n 3, 1) := by decide +kernel
theorem dX7_bidder_50 : decode cX7_bidder 50 = .ok (.if_icmp .le 9, 3) := by decide +kernel
theorem dX7_bidder_53 : decode cX7_bidder 53 = .ok (.iload 4, 2) := by decide +kernel
theorem dX7_bidder_55 : decode cX7_bidder 55 = .ok (.istore_n 2, 1) := by decide +kernel
theorem dX7_bidder_56 : decode cX7_bidder 56 = .ok (.iload 5, 2) := by decide +kernel
theorem dX7_bidder_58 : decode cX7_bidder 58 = .ok (.istore_n 3, 1) := by decide +kernel
theorem dX7_bidder_59 : decode cX7_bidder 59 = .ok (.iinc 4 1, 3) := by decide +kernel
theorem dX7_bidder_62 : decode cX7_bidder 62 = .ok (.goto (-55), 3) := by decide +kernel
theorem dX7_bidder_65 : decode cX7_bidder 65 = .ok (.iload_n 2, 1) := by decide +kernel
theorem dX7_bidder_66 : decode cX7_bidder 66 = .ok (.ireturn, 1) := by decide +kernel
theorem dX7_wears_0 : decode cX7_wears 0 = .ok (.aload_n 0, 1) := by decide +kernel
theorem dX7_wears_1 : decode cX7_wears 1 = .ok (.iconst 1, 1) := by decide +kernel
theorem dX7_wears_2 : decode cX7_wears 2 = .ok (.invokevirtual 93, 3) := by decide +kernel
theorem dX7_wears_5 : decode cX7_wears 5 = .ok (.istore_n 3, 1) := by decide +kernel
theorem dX7_wears_6 : decode cX7_wears 6 = .ok (.iload_n 3, 1) := by decide +kernel
theorem dX7_wears_7 : decode cX7_wears 7 = .ok (.ifCond .ge 7, 3) := by decide +kernel
theorem dX7_wears_10 : decode cX7_wears 10 = .ok (.iload_n 2, 1) := by decide +kernel
theorem dX7_wears_11 : decode cX7_wears 11 = .ok (.iconst 3, 1) := by decide +kernel
theorem dX7_wears_12 : decode cX7_wears 12 = .ok (.idiv, 1) := by decide +kernel
theorem dX7_wears_13 : decode cX7_wears 13 = .ok (.ireturn, 1) := by decide +kernel
theorem dX7_wears_14 : decode cX7_wears 14 = .ok (.aload_n 0, 1) := by decide +kernel
theorem dX7_wears_15 : decode cX7_wears 15 = .ok (.getfield 52, 3) := by decide +kernel
theorem dX7_wears_18 : decode cX7_wears 18 = .ok (.bipush 120, 2) := by decide +kernel
theorem dX7_wears_20 : decode cX7_wears 20 = .ok (.iload_n 2, 1) := by decide +kernel
theorem dX7_wears_21 : decode cX7_wears 21 = .ok (.iastore, 1) := by decide +kernel
theorem dX7_wears_22 : decode cX7_wears 22 = .ok (.aload_n 0, 1) := by decide +kernel
theorem dX7_wears_23 : decode cX7_wears 23 = .ok (.getfield 52, 3) := by decide +kernel
theorem dX7_wears_26 : decode cX7_wears 26 = .ok (.bipush 116, 2) := by decide +kernel
theorem dX7_wears_28 : decode cX7_wears 28 = .ok (.aload_n 0, 1) := by decide +kernel
theorem dX7_wears_29 : decode cX7_wears 29 = .ok (.iload_n 1, 1) := by decide +kernel
theorem dX7_wears_30 : decode cX7_wears 30 = .ok (.iconst 2, 1) := by decide +kernel
theorem dX7_wears_31 : decode cX7_wears 31 = .ok (.invokevirtual 97, 3) := by decide +kernel
theorem dX7_wears_34 : decode cX7_wears 34 = .ok (.iastore, 1) := by decide +kernel
theorem dX7_wears_35 : decode cX7_wears 35 = .ok (.aload_n 0, 1) := by decide +kernel
theorem dX7_wears_36 : decode cX7_wears 36 = .ok (.getfield 52, 3) := by decide +kernel
theorem dX7_wears_39 : decode cX7_wears 39 = .ok (.bipush 119, 2) := by decide +kernel
theorem dX7_wears_41 : decode cX7_wears 41 = .ok (.aload_n 0, 1) := by decide +kernel
theorem dX7_wears_42 : decode cX7_wears 42 = .ok (.iload_n 1, 1) := by decide +kernel
theorem dX7_wears_43 : decode cX7_wears 43 = .ok (.iconst 3, 1) := by decide +kernel
theorem dX7_wears_44 : decode cX7_wears 44 = .ok (.invokevirtual 97, 3) := by decide +kernel
theorem dX7_wears_47 : decode cX7_wears 47 = .ok (.iastore, 1) := by decide +kernel
theorem dX7_wears_48 : decode cX7_wears 48 = .ok (.aload_n 0, 1) := by decide +kernel
theorem dX7_wears_49 : decode cX7_wears 49 = .ok (.iload_n 3, 1) := by decide +kernel
theorem dX7_wears_50 : decode cX7_wears 50 = .ok (.invokevirtual 104, 3) := by decide +kernel
theorem dX7_wears_53 : decode cX7_wears 53 = .ok (.bipush 20, 2) := by decide +kernel
theorem dX7_wears_55 : decode cX7_wears 55 = .ok (.invokestatic 101, 3) := by decide +kernel
theorem dX7_wears_58 : decode cX7_wears 58 = .ok (.ireturn, 1) := by decide +kernel
theorem dX7_goesOn_0 : decode cX7_goesOn 0 = .ok (.iconst 0, 1) := by decide +kernel
theorem dX7_goesOn_1 : decode cX7_goesOn 1 = .ok (.istore_n 1, 1) := by decide +kernel
theorem dX7_goesOn_2 : decode cX7_goesOn 2 = .ok (.iload_n 1, 1) := by decide +kernel
theorem dX7_goesOn_3 : decode cX7_goesOn 3 = .ok (.aload_n 0, 1) := by decide +kernel
theorem dX7_goesOn_4 : decode cX7_goesOn 4 = .ok (.getfield 7, 3) := by decide +kernel
theorem dX7_goesOn_7 : decode cX7_goesOn 7 = .ok (.iconst 0, 1) := by decide +kernel
theorem dX7_goesOn_8 : decode cX7_goesOn 8 = .ok (.iaload, 1) := by decide +kernel
theorem dX7_goesOn_9 : decode cX7_goesOn 9 = .ok (.if_icmp .ge 41, 3) := by decide +kernel
theorem dX7_goesOn_12 : decode cX7_goesOn 12 = .ok (.aload_n 0, 1) := by decide +kernel
theorem dX7_goesOn_13 : decode cX7_goesOn 13 = .ok (.invokevirtual 147, 3) := by decide +kernel
theorem dX7_goesOn_16 : decode cX7_goesOn 16 = .ok (.bipush 10, 2) := by decide +kernel
theorem dX7_goesOn_18 : decode cX7_goesOn 18 = .ok (.irem, 1) := by decide +kernel
theorem dX7_goesOn_19 : decode cX7_goesOn 19 = .ok (.istore_n 2, 1) := by decide +kernel
theorem dX7_goesOn_20 : decode cX7_goesOn 20 = .ok (.aload_n 0, 1) := by decide +kernel
theorem dX7_goesOn_21 : decode cX7_goesOn 21 = .ok (.iload_n 1, 1) := by decide +kernel
theorem dX7_goesOn_22 : decode cX7_goesOn 22 = .ok (.iconst 3, 1) := by decide +kernel
theorem dX7_goesOn_23 : decode cX7_goesOn 23 = .ok (.aload_n 0, 1) := by decide +kernel
theorem dX7_goesOn_24 : decode cX7_goesOn 24 = .ok (.iload_n 1, 1) := by decide +kernel
theorem dX7_goesOn_25 : decode cX7_goesOn 25 = .ok (.iconst 3, 1) := by decide +kernel
theorem dX7_goesOn_26 : decode cX7_goesOn 26 = .ok (.invokevirtual 97, 3) := by decide +kernel
theorem dX7_goesOn_29 : decode cX7_goesOn 29 = .ok (.aload_n 0, 1) := by decide +kernel
theorem dX7_goesOn_30 : decode cX7_goesOn 30 = .ok (.iload_n 1, 1) := by decide +kernel
theorem dX7_goesOn_31 : decode cX7_goesOn 31 = .ok (.iload_n 2, 1) := by decide +kernel
theorem dX7_goesOn_32 : decode cX7_goesOn 32 = .ok (.invokevirtual 155, 3) := by decide +kernel
theorem dX7_goesOn_35 : decode cX7_goesOn 35 = .ok (.iadd, 1) := by decide +kernel
theorem dX7_goesOn_36 : decode cX7_goesOn 36 = .ok (.bipush 99, 2) := by decide +kernel
theorem dX7_goesOn_38 : decode cX7_goesOn 38 = .ok (.invokestatic 101, 3) := by decide +kernel
theorem dX7_goesOn_41 : decode cX7_goesOn 41 = .ok (.invokevirtual 73, 3) := by decide +kernel
theorem dX7_goesOn_44 : decode cX7_goesOn 44 = .ok (.iinc 1 1, 3) := by decide +kernel
theorem dX7_goesOn_47 : decode cX7_goesOn 47 = .ok (.goto (-45), 3) := by decide +kernel
theorem dX7_goesOn_50 : decode cX7_goesOn 50 = .ok (.iconst 0, 1) := by decide +kernel
theorem dX7_goesOn_51 : decode cX7_goesOn 51 = .ok (.istore_n 1, 1) := by decide +kernel
theorem dX7_goesOn_52 : decode cX7_goesOn 52 = .ok (.iload_n 1, 1) := by decide +kernel
theorem dX7_goesOn_53 : decode cX7_goesOn 53 = .ok (.aload_n 0, 1) := by decide +kernel
theorem dX7_goesOn_54 : decode cX7_goesOn 54 = .ok (.getfield 7, 3) := by decide +kernel
theorem dX7_goesOn_57 : decode cX7_goesOn 57 = .ok (.iconst 0, 1) := by decide +kernel
theorem dX7_goesOn_58 : decode cX7_goesOn 58 = .ok (.iaload, 1) := by decide +kernel
theorem dX7_goesOn_59 : decode cX7_goesOn 59 = .ok (.if_icmp .ge 44, 3) := by decide +kernel
theorem dX7_goesOn_62 : decode cX7_goesOn 62 = .ok (.aload_n 0, 1) := by decide +kernel
theorem dX7_goesOn_63 : decode cX7_goesOn 63 = .ok (.iload_n 1, 1) := by decide +kernel
theorem dX7_goesOn_64 : decode cX7_goesOn 64 = .ok (.invokevirtual 158, 3) := by decide +kernel
theorem dX7_goesOn_67 : decode cX7_goesOn 67 = .ok (.istore_n 2, 1) := by decide +kernel
theorem dX7_goesOn_68 : decode cX7_goesOn 68 = .ok (.aload_n 0, 1) := by decide +kernel
theorem dX7_goesOn_69 : decode cX7_goesOn 69 = .ok (.iload_n 2, 1) := by decide +kernel
theorem dX7_goesOn_70 : decode cX7_goesOn 70 = .ok (.iload_n 1, 1) := by decide +kernel
theorem dX7_goesOn_71 : decode cX7_goesOn 71 = .ok (.invokevirtual 142, 3) := by decide +kernel
theorem dX7_goesOn_74 : decode cX7_goesOn 74 = .ok (.istore_n 3, 1) := by decide +kernel
theorem dX7_goesOn_75 : decode cX7_goesOn 75 = .ok (.iload_n 3, 1) := by decide +kernel
theorem dX7_goesOn_76 : decode cX7_goesOn 76 = .ok (.aload_n 0, 1) := by decide +kernel
theorem dX7_goesOn_77 : decode cX7_goesOn 77 = .ok (.aload_n 0, 1) := by decide +kernel
theorem dX7_goesOn_78 : decode cX7_goesOn 78 = .ok (.iload_n 1, 1) := by decide +kernel
theorem dX7_goesOn_79 : decode cX7_goesOn 79 = .ok (.iconst 4, 1) := by decide +kernel
theorem dX7_goesOn_80 : decode cX7_goesOn 80 = .ok (.invokevirtual 97, 3) := by decide +kernel
theorem dX7_goesOn_83 : decode cX7_goesOn 83 = .ok (.iload_n 1, 1) := by decide +kernel
theorem dX7_goesOn_84 : decode cX7_goesOn 84 = .ok (.invokevirtual 142, 3) := by decide +kernel
theorem dX7_goesOn_87 : decode cX7_goesOn 87 = .ok (.if_icmp .le 10, 3) := by decide +kernel
theorem dX7_goesOn_90 : decode cX7_goesOn 90 = .ok (.aload_n 0, 1) := by decide +kernel
theorem dX7_goesOn_91 : decode cX7_goesOn 91 = .ok (.iload_n 1, 1) := by decide +kernel
theorem dX7_goesOn_92 : decode cX7_goesOn 92 = .ok (.iload_n 2, 1) := by decide +kernel
theorem dX7_goesOn_93 : decode cX7_goesOn 93 = .ok (.iload_n 3, 1) := by decide +kernel
theorem dX7_goesOn_94 : decode cX7_goesOn 94 = .ok (.invokevirtual 152, 3) := by decide +kernel
theorem dX7_goesOn_97 : decode cX7_goesOn 97 = .ok (.iinc 1 1, 3) := by decide +kernel
theorem dX7_goesOn_100 : decode cX7_goesOn 100 = .ok (.goto (-48), 3) := by decide +kernel
theorem dX7_goesOn_103 : decode cX7_goesOn 103 = .ok (.aload_n 0, 1) := by decide +kernel
theorem dX7_goesOn_104 : decode cX7_goesOn 104 = .ok (.getfield 7, 3) := by decide +kernel
theorem dX7_goesOn_107 : decode cX7_goesOn 107 = .ok (.iconst 2, 1) := by decide +kernel
theorem dX7_goesOn_108 : decode cX7_goesOn 108 = .ok (.dup2, 1) := by decide +kernel
theorem dX7_goesOn_109 : decode cX7_goesOn 109 = .ok (.iaload, 1) := by decide +kernel
theorem dX7_goesOn_110 : decode cX7_goesOn 110 = .ok (.iconst 1, 1) := by decide +kernel
theorem dX7_goesOn_111 : decode cX7_goesOn 111 = .ok (.iadd, 1) := by decide +kernel
theorem dX7_goesOn_112 : decode cX7_goesOn 112 = .ok (.iastore, 1) := by decide +kernel
theorem dX7_goesOn_113 : decode cX7_goesOn 113 = .ok (.return_, 1) := by decide +kernel
theorem dX7_markets_0 : decode cX7_markets 0 = .ok (.iload_n 1, 1) := by decide +kernel
theorem dX7_markets_1 : decode cX7_markets 1 = .ok (.i2l, 1) := by decide +kernel
theorem dX7_markets_2 : decode cX7_markets 2 = .ok (.lconst 1, 1) := by decide +kernel
theorem dX7_markets_3 : decode cX7_markets 3 = .ok (.ldc2_w 161, 3) := by decide +kernel
theorem dX7_markets_6 : decode cX7_markets 6 = .ok (.invokestatic 68, 3) := by decide +kernel
theorem dX7_markets_9 : decode cX7_markets 9 = .ok (.ifCond .ne 6, 3) := by decide +kernel
theorem dX7_markets_12 : decode cX7_markets 12 = .ok (.ldc 87, 2) := by decide +kernel
theorem dX7_markets_14 : decode cX7_markets 14 = .ok (.ireturn, 1) := by decide +kernel
theorem dX7_markets_15 : decode cX7_markets 15 = .ok (.aload_n 0, 1) := by decide +kernel
theorem dX7_markets_16 : decode cX7_markets 16 = .ok (.getfield 7, 3) := by decide +kernel
theorem dX7_markets_19 : decode cX7_markets 19 = .ok (.iconst 3, 1) := by decide +kernel
theorem dX7_markets_20 : decode cX7_markets 20 = .ok (.iaload, 1) := by decide +kernel
theorem dX7_markets_21 : decode cX7_markets 21 = .ok (.istore_n 2, 1) := by decide +kernel
theorem dX7_markets_22 : decode cX7_markets 22 = .ok (.iconst 0, 1) := by decide +kernel
theorem dX7_markets_23 : decode cX7_markets 23 = .ok (.istore_n 3, 1) := by decide +kernel
theorem dX7_markets_24 : decode cX7_markets 24 = .ok (.iload_n 3, 1) := by decide +kernel
theorem dX7_markets_25 : decode cX7_markets 25 = .ok (.iload_n 1, 1) := by decide +kernel
theorem dX7_markets_26 : decode cX7_markets 26 = .ok (.if_icmp .ge 25, 3) := by decide +kernel
theorem dX7_markets_29 : decode cX7_markets 29 = .ok (.aload_n 0, 1) := by decide +kernel
theorem dX7_markets_30 : decode cX7_markets 30 = .ok (.getfield 7, 3) := by decide +kernel
theorem dX7_markets_33 : decode cX7_markets 33 = .ok (.iconst 2, 1) := by decide +kernel
theorem dX7_markets_34 : decode cX7_markets 34 = .ok (.iaload, 1) := by decide +kernel
theorem dX7_markets_35 : decode cX7_markets 35 = .ok (.sipush 9999, 3) := by decide +kernel
theorem dX7_markets_38 : decode cX7_markets 38 = .ok (.if_icmp .ge 13, 3) := by decide +kernel
theorem dX7_markets_41 : decode cX7_markets 41 = .ok (.aload_n 0, 1) := by decide +kernel
theorem dX7_markets_42 : decode cX7_markets 42 = .ok (.invokevirtual 163, 3) := by decide +kernel
theorem dX7_markets_45 : decode cX7_markets 45 = .ok (.iinc 3 1, 3) := by decide +kernel
theorem dX7_markets_48 : decode cX7_markets 48 = .ok (.goto (-24), 3) := by decide +kernel
theorem dX7_markets_51 : decode cX7_markets 51 = .ok (.aload_n 0, 1) := by decide +kernel
theorem dX7_markets_52 : decode cX7_markets 52 = .ok (.getfield 7, 3) := by decide +kernel
theorem dX7_markets_55 : decode cX7_markets 55 = .ok (.iconst 3, 1) := by decide +kernel
theorem dX7_markets_56 : decode cX7_markets 56 = .ok (.iaload, 1) := by decide +kernel
theorem dX7_markets_57 : decode cX7_markets 57 = .ok (.iload_n 2, 1) := by decide +kernel
theorem dX7_markets_58 : decode cX7_markets 58 = .ok (.isub, 1) := by decide +kernel
theorem dX7_markets_59 : decode cX7_markets 59 = .ok (.ireturn, 1) := by decide +kernel
theorem dX7_allCoins_0 : decode cX7_allCoins 0 = .ok (.iconst 0, 1) := by decide +kernel
theorem dX7_allCoins_1 : decode cX7_allCoins 1 = .ok (.istore_n 1, 1) := by decide +kernel
theorem dX7_allCoins_2 : decode cX7_allCoins 2 = .ok (.iconst 0, 1) := by decide +kernel
theorem dX7_allCoins_3 : decode cX7_allCoins 3 = .ok (.istore_n 2, 1) := by decide +kernel
theorem dX7_allCoins_4 : decode cX7_allCoins 4 = .ok (.iload_n 2, 1) := by decide +kernel
theorem dX7_allCoins_5 : decode cX7_allCoins 5 = .ok (.bipush 6, 2) := by decide +kernel
theorem dX7_allCoins_7 : decode cX7_allCoins 7 = .ok (.if_icmp .ge 21, 3) := by decide +kernel
theorem dX7_allCoins_10 : decode cX7_allCoins 10 = .ok (.iload_n 1, 1) := by decide +kernel
theorem dX7_allCoins_11 : decode cX7_allCoins 11 = .ok (.aload_n 0, 1) := by decide +kernel
theorem dX7_allCoins_12 : decode cX7_allCoins 12 = .ok (.getfield 7, 3) := by decide +kernel
theorem dX7_allCoins_15 : decode cX7_allCoins 15 = .ok (.bipush 6, 2) := by decide +kernel
theorem dX7_allCoins_17 : decode cX7_allCoins 17 = .ok (.iload_n 2, 1) := by decide +kernel
theorem dX7_allCoins_18 : decode cX7_allCoins 18 = .ok (.iadd, 1) := by decide +kernel
theorem dX7_allCoins_19 : decode cX7_allCoins 19 = .ok (.iaload, 1) := by decide +kernel
theorem dX7_allCoins_20 : decode cX7_allCoins 20 = .ok (.iadd, 1) := by decide +kernel
theorem dX7_allCoins_21 : decode cX7_allCoins 21 = .ok (.istore_n 1, 1) := by decide +kernel
theorem dX7_allCoins_22 : decode cX7_allCoins 22 = .ok (.iinc 2 1, 3) := by decide +kernel
theorem dX7_allCoins_25 : decode cX7_allCoins 25 = .ok (.goto (-21), 3) := by decide +kernel
theorem dX7_allCoins_28 : decode cX7_allCoins 28 = .ok (.iload_n 1, 1) := by decide +kernel
theorem dX7_allCoins_29 : decode cX7_allCoins 29 = .ok (.ireturn, 1) := by decide +kernel
theorem dX7_ledger_0 : decode cX7_ledger 0 = .ok (.iload_n 1, 1) := by decide +kernel
theorem dX7_ledger_1 : decode cX7_ledger 1 = .ok (.tableswitch 46 0 2 #[27, 34, 41], 27) := by decide +kernel
theorem dX7_ledger_28 : decode cX7_ledger 28 = .ok (.aload_n 0, 1) := by decide +kernel
theorem dX7_ledger_29 : decode cX7_ledger 29 = .ok (.getfield 7, 3) := by decide +kernel
theorem dX7_ledger_32 : decode cX7_ledger 32 = .ok (.iconst 3, 1) := by decide +kernel
theorem dX7_ledger_33 : decode cX7_ledger 33 = .ok (.iaload, 1) := by decide +kernel
theorem dX7_ledger_34 : decode cX7_ledger 34 = .ok (.ireturn, 1) := by decide +kernel
theorem dX7_ledger_35 : decode cX7_ledger 35 = .ok (.aload_n 0, 1) := by decide +kernel
theorem dX7_ledger_36 : decode cX7_ledger 36 = .ok (.getfield 7, 3) := by decide +kernel
theorem dX7_ledger_39 : decode cX7_ledger 39 = .ok (.iconst 4, 1) := by decide +kernel
theorem dX7_ledger_40 : decode cX7_ledger 40 = .ok (.iaload, 1) := by decide +kernel
theorem dX7_ledger_41 : decode cX7_ledger 41 = .ok (.ireturn, 1) := by decide +kernel
theorem dX7_ledger_42 : decode cX7_ledger 42 = .ok (.aload_n 0, 1) := by decide +kernel
theorem dX7_ledger_43 : decode cX7_ledger 43 = .ok (.invokevirtual 166, 3) := by decide +kernel
theorem dX7_ledger_46 : decode cX7_ledger 46 = .ok (.ireturn, 1) := by decide +kernel
theorem dX7_ledger_47 : decode cX7_ledger 47 = .ok (.ldc 87, 2) := by decide +kernel
theorem dX7_ledger_49 : decode cX7_ledger 49 = .ok (.ireturn, 1) := by decide +kernel
theorem dX7_manyWith_0 : decode cX7_manyWith 0 = .ok (.iconst 0, 1) := by decide +kernel
theorem dX7_manyWith_1 : decode cX7_manyWith 1 = .ok (.istore_n 3, 1) := by decide +kernel
theorem dX7_manyWith_2 : decode cX7_manyWith 2 = .ok (.iconst 0, 1) := by decide +kernel
theorem dX7_manyWith_3 : decode cX7_manyWith 3 = .ok (.istore 4, 2) := by decide +kernel
theorem dX7_manyWith_5 : decode cX7_manyWith 5 = .ok (.iload 4, 2) := by decide +kernel
theorem dX7_manyWith_7 : decode cX7_manyWith 7 = .ok (.aload_n 0, 1) := by decide +kernel
theorem dX7_manyWith_8 : decode cX7_manyWith 8 = .ok (.getfield 7, 3) := by decide +kernel
theorem dX7_manyWith_11 : decode cX7_manyWith 11 = .ok (.iconst 0, 1) := by decide +kernel
theorem dX7_manyWith_12 : decode cX7_manyWith 12 = .ok (.iaload, 1) := by decide +kernel
theorem dX7_manyWith_13 : decode cX7_manyWith 13 = .ok (.if_icmp .ge 39, 3) := by decide +kernel
theorem dX7_manyWith_16 : decode cX7_manyWith 16 = .ok (.iload_n 3, 1) := by decide +kernel
theorem dX7_manyWith_17 : decode cX7_manyWith 17 = .ok (.aload_n 0, 1) := by decide +kernel
theorem dX7_manyWith_18 : decode cX7_manyWith 18 = .ok (.iload 4, 2) := by decide +kernel
theorem dX7_manyWith_20 : decode cX7_manyWith 20 = .ok (.iconst 1, 1) := by decide +kernel
theorem dX7_manyWith_21 : decode cX7_manyWith 21 = .ok (.invokevirtual 97, 3) := by decide +kernel
theorem dX7_manyWith_24 : decode cX7_manyWith 24 = .ok (.iload_n 1, 1) := by decide +kernel
theorem dX7_manyWith_25 : decode cX7_manyWith 25 = .ok (.if_icmp .ne 18, 3) := by decide +kernel
theorem dX7_manyWith_28 : decode cX7_manyWith 28 = .ok (.aload_n 0, 1) := by decide +kernel
theorem dX7_manyWith_29 : decode cX7_manyWith 29 = .ok (.iload 4, 2) := by decide +kernel
theorem dX7_manyWith_31 : decode cX7_manyWith 31 = .ok (.iconst 2, 1) := by decide +kernel
theorem dX7_manyWith_32 : decode cX7_manyWith 32 = .ok (.invokevirtual 97, 3) := by decide +kernel
theorem dX7_manyWith_35 : decode cX7_manyWith 35 = .ok (.iload_n 2, 1) := by decide +kernel
theorem dX7_manyWith_36 : decode cX7_manyWith 36 = .ok (.if_icmp .ne 7, 3) := by decide +kernel
theorem dX7_manyWith_39 : decode cX7_manyWith 39 = .ok (.iconst 1, 1) := by decide +kernel
theorem dX7_manyWith_40 : decode cX7_manyWith 40 = .ok (.goto 4, 3) := by decide +kernel
theorem dX7_manyWith_43 : decode cX7_manyWith 43 = .ok (.iconst 0, 1) := by decide +kernel
theorem dX7_manyWith_44 : decode cX7_manyWith 44 = .ok (.iadd, 1) := by decide +kernel
theorem dX7_manyWith_45 : decode cX7_manyWith 45 = .ok (.istore_n 3, 1) := by decide +kernel
theorem dX7_manyWith_46 : decode cX7_manyWith 46 = .ok (.iinc 4 1, 3) := by decide +kernel
theorem dX7_manyWith_49 : decode cX7_manyWith 49 = .ok (.goto (-44), 3) := by decide +kernel
theorem dX7_manyWith_52 : decode cX7_manyWith 52 = .ok (.iload_n 3, 1) := by decide +kernel
theorem dX7_manyWith_53 : decode cX7_manyWith 53 = .ok (.ireturn, 1) := by decide +kernel
theorem dX7_trueOf_0 : decode cX7_trueOf 0 = .ok (.iconst (-1), 1) := by decide +kernel
theorem dX7_trueOf_1 : decode cX7_trueOf 1 = .ok (.istore_n 2, 1) := by decide +kernel
theorem dX7_trueOf_2 : decode cX7_trueOf 2 = .ok (.iconst 0, 1) := by decide +kernel
theorem dX7_trueOf_3 : decode cX7_trueOf 3 = .ok (.istore_n 3, 1) := by decide +kernel
theorem dX7_trueOf_4 : decode cX7_trueOf 4 = .ok (.iconst 0, 1) := by decide +kernel
theorem dX7_trueOf_5 : decode cX7_trueOf 5 = .ok (.istore 4, 2) := by decide +kernel
theorem dX7_trueOf_7 : decode cX7_trueOf 7 = .ok (.iload 4, 2) := by decide +kernel
theorem dX7_trueOf_9 : decode cX7_trueOf 9 = .ok (.bipush 10, 2) := by decide +kernel
theorem dX7_trueOf_11 : decode cX7_trueOf 11 = .ok (.if_icmp .ge 30, 3) := by decide +kernel
theorem dX7_trueOf_14 : decode cX7_trueOf 14 = .ok (.aload_n 0, 1) := by decide +kernel
theorem dX7_trueOf_15 : decode cX7_trueOf 15 = .ok (.iload_n 1, 1) := by decide +kernel
theorem dX7_trueOf_16 : decode cX7_trueOf 16 = .ok (.iload 4, 2) := by decide +kernel
theorem dX7_trueOf_18 : decode cX7_trueOf 18 = .ok (.invokevirtual 169, 3) := by decide +kernel
theorem dX7_trueOf_21 : decode cX7_trueOf 21 = .ok (.istore 5, 2) := by decide +kernel
theorem dX7_trueOf_23 : decode cX7_trueOf 23 = .ok (.iload 5, 2) := by decide +kernel
theorem dX7_trueOf_25 : decode cX7_trueOf 25 = .ok (.iload_n 3, 1) := by decide +kernel
theorem dX7_trueOf_26 : decode cX7_trueOf 26 = .ok (.if_icmp .le 9, 3) := by decide +kernel
theorem dX7_trueOf_29 : decode cX7_trueOf 29 = .ok (.iload 4, 2) := by decide +kernel
theorem dX7_trueOf_31 : decode cX7_trueOf 31 = .ok (.istore_n 2, 1) := by decide +kernel
theorem dX7_trueOf_32 : decode cX7_trueOf 32 = .ok (.iload 5, 2) := by decide +kernel
theorem dX7_trueOf_34 : decode cX7_trueOf 34 = .ok (.istore_n 3, 1) := by decide +kernel
theorem dX7_trueOf_35 : decode cX7_trueOf 35 = .ok (.iinc 4 1, 3) := by decide +kernel
theorem dX7_trueOf_38 : decode cX7_trueOf 38 = .ok (.goto (-31), 3) := by decide +kernel
theorem dX7_trueOf_41 : decode cX7_trueOf 41 = .ok (.iload_n 2, 1) := by decide +kernel
theorem dX7_trueOf_42 : decode cX7_trueOf 42 = .ok (.ireturn, 1) := by decide +kernel
theorem dX7_isTrue_0 : decode cX7_isTrue 0 = .ok (.iload_n 1, 1) := by decide +kernel
theorem dX7_isTrue_1 : decode cX7_isTrue 1 = .ok (.i2l, 1) := by decide +kernel
theorem dX7_isTrue_2 : decode cX7_isTrue 2 = .ok (.lconst 0, 1) := by decide +kernel
theorem dX7_isTrue_3 : decode cX7_isTrue 3 = .ok (.ldc2_w 79, 3) := by decide +kernel
theorem dX7_isTrue_6 : decode cX7_isTrue 6 = .ok (.invokestatic 68, 3) := by decide +kernel
theorem dX7_isTrue_9 : decode cX7_isTrue 9 = .ok (.ifCond .eq 14, 3) := by decide +kernel
theorem dX7_isTrue_12 : decode cX7_isTrue 12 = .ok (.aload_n 0, 1) := by decide +kernel
theorem dX7_isTrue_13 : decode cX7_isTrue 13 = .ok (.iload_n 1, 1) := by decide +kernel
theorem dX7_isTrue_14 : decode cX7_isTrue 14 = .ok (.invokevirtual 172, 3) := by decide +kernel
theorem dX7_isTrue_17 : decode cX7_isTrue 17 = .ok (.invokestatic 175, 3) := by decide +kernel
theorem dX7_isTrue_20 : decode cX7_isTrue 20 = .ok (.goto 5, 3) := by decide +kernel
theorem dX7_isTrue_23 : decode cX7_isTrue 23 = .ok (.ldc 87, 2) := by decide +kernel
theorem dX7_isTrue_25 : decode cX7_isTrue 25 = .ok (.ireturn, 1) := by decide +kernel
theorem dX7_falseMany_0 : decode cX7_falseMany 0 = .ok (.iconst 0, 1) := by decide +kernel
theorem dX7_falseMany_1 : decode cX7_falseMany 1 = .ok (.istore_n 1, 1) := by decide +kernel
theorem dX7_falseMany_2 : decode cX7_falseMany 2 = .ok (.iconst 0, 1) := by decide +kernel
theorem dX7_falseMany_3 : decode cX7_falseMany 3 = .ok (.istore_n 2, 1) := by decide +kernel
theorem dX7_falseMany_4 : decode cX7_falseMany 4 = .ok (.iload_n 2, 1) := by decide +kernel
theorem dX7_falseMany_5 : decode cX7_falseMany 5 = .ok (.aload_n 0, 1) := by decide +kernel
theorem dX7_falseMany_6 : decode cX7_falseMany 6 = .ok (.getfield 7, 3) := by decide +kernel
theorem dX7_falseMany_9 : decode cX7_falseMany 9 = .ok (.iconst 0, 1) := by decide +kernel
theorem dX7_falseMany_10 : decode cX7_falseMany 10 = .ok (.iaload, 1) := by decide +kernel
theorem dX7_falseMany_11 : decode cX7_falseMany 11 = .ok (.if_icmp .ge 36, 3) := by decide +kernel
theorem dX7_falseMany_14 : decode cX7_falseMany 14 = .ok (.iload_n 1, 1) := by decide +kernel
theorem dX7_falseMany_15 : decode cX7_falseMany 15 = .ok (.aload_n 0, 1) := by decide +kernel
theorem dX7_falseMany_16 : decode cX7_falseMany 16 = .ok (.iload_n 2, 1) := by decide +kernel
theorem dX7_falseMany_17 : decode cX7_falseMany 17 = .ok (.iconst 2, 1) := by decide +kernel
theorem dX7_falseMany_18 : decode cX7_falseMany 18 = .ok (.invokevirtual 97, 3) := by decide +kernel
theorem dX7_falseMany_21 : decode cX7_falseMany 21 = .ok (.aload_n 0, 1) := by decide +kernel
theorem dX7_falseMany_22 : decode cX7_falseMany 22 = .ok (.aload_n 0, 1) := by decide +kernel
theorem dX7_falseMany_23 : decode cX7_falseMany 23 = .ok (.iload_n 2, 1) := by decide +kernel
theorem dX7_falseMany_24 : decode cX7_falseMany 24 = .ok (.iconst 1, 1) := by decide +kernel
theorem dX7_falseMany_25 : decode cX7_falseMany 25 = .ok (.invokevirtual 97, 3) := by decide +kernel
theorem dX7_falseMany_28 : decode cX7_falseMany 28 = .ok (.invokevirtual 172, 3) := by decide +kernel
theorem dX7_falseMany_31 : decode cX7_falseMany 31 = .ok (.if_icmp .ne 7, 3) := by decide +kernel
theorem dX7_falseMany_34 : decode cX7_falseMany 34 = .ok (.iconst 0, 1) := by decide +kernel
theorem dX7_falseMany_35 : decode cX7_falseMany 35 = .ok (.goto 4, 3) := by decide +kernel
theorem dX7_falseMany_38 : decode cX7_falseMany 38 = .ok (.iconst 1, 1) := by decide +kernel
theorem dX7_falseMany_39 : decode cX7_falseMany 39 = .ok (.iadd, 1) := by decide +kernel
theorem dX7_falseMany_40 : decode cX7_falseMany 40 = .ok (.istore_n 1, 1) := by decide +kernel
theorem dX7_falseMany_41 : decode cX7_falseMany 41 = .ok (.iinc 2 1, 3) := by decide +kernel
theorem dX7_falseMany_44 : decode cX7_falseMany 44 = .ok (.goto (-40), 3) := by decide +kernel
theorem dX7_falseMany_47 : decode cX7_falseMany 47 = .ok (.iload_n 1, 1) := by decide +kernel
theorem dX7_falseMany_48 : decode cX7_falseMany 48 = .ok (.ireturn, 1) := by decide +kernel
theorem dX7_joy_0 : decode cX7_joy 0 = .ok (.bipush 10, 2) := by decide +kernel
theorem dX7_joy_2 : decode cX7_joy 2 = .ok (.aload_n 0, 1) := by decide +kernel
theorem dX7_joy_3 : decode cX7_joy 3 = .ok (.iload_n 2, 1) := by decide +kernel
theorem dX7_joy_4 : decode cX7_joy 4 = .ok (.iconst 2, 1) := by decide +kernel
theorem dX7_joy_5 : decode cX7_joy 5 = .ok (.invokevirtual 97, 3) := by decide +kernel
theorem dX7_joy_8 : decode cX7_joy 8 = .ok (.aload_n 0, 1) := by decide +kernel
theorem dX7_joy_9 : decode cX7_joy 9 = .ok (.getfield 7, 3) := by decide +kernel
theorem dX7_joy_12 : decode cX7_joy 12 = .ok (.bipush 12, 2) := by decide +kernel
theorem dX7_joy_14 : decode cX7_joy 14 = .ok (.iload_n 1, 1) := by decide +kernel
theorem dX7_joy_15 : decode cX7_joy 15 = .ok (.iadd, 1) := by decide +kernel
theorem dX7_joy_16 : decode cX7_joy 16 = .ok (.iaload, 1) := by decide +kernel
theorem dX7_joy_17 : decode cX7_joy 17 = .ok (.invokestatic 113, 3) := by decide +kernel
theorem dX7_joy_20 : decode cX7_joy 20 = .ok (.isub, 1) := by decide +kernel
theorem dX7_joy_21 : decode cX7_joy 21 = .ok (.ireturn, 1) := by decide +kernel
theorem dX7_valuesOf_0 : decode cX7_valuesOf 0 = .ok (.iconst 0, 1) := by decide +kernel
theorem dX7_valuesOf_1 : decode cX7_valuesOf 1 = .ok (.istore_n 2, 1) := by decide +kernel
theorem dX7_valuesOf_2 : decode cX7_valuesOf 2 = .ok (.iconst 0, 1) := by decide +kernel
theorem dX7_valuesOf_3 : decode cX7_valuesOf 3 = .ok (.istore_n 3, 1) := by decide +kernel
theorem dX7_valuesOf_4 : decode cX7_valuesOf 4 = .ok (.iload_n 3, 1) := by decide +kernel
theorem dX7_valuesOf_5 : decode cX7_valuesOf 5 = .ok (.aload_n 0, 1) := by decide +kernel
theorem dX7_valuesOf_6 : decode cX7_valuesOf 6 = .ok (.getfield 7, 3) := by decide +kernel
theorem dX7_valuesOf_9 : decode cX7_valuesOf 9 = .ok (.iconst 0, 1) := by decide +kernel
theorem dX7_valuesOf_10 : decode cX7_valuesOf 10 = .ok (.iaload, 1) := by decide +kernel
theorem dX7_valuesOf_11 : decode cX7_valuesOf 11 = .ok (.if_icmp .ge 31, 3) := by decide +kernel
theorem dX7_valuesOf_14 : decode cX7_valuesOf 14 = .ok (.iload_n 2, 1) := by decide +kernel
theorem dX7_valuesOf_15 : decode cX7_valuesOf 15 = .ok (.iload_n 1, 1) := by decide +kernel
theorem dX7_valuesOf_16 : decode cX7_valuesOf 16 = .ok (.iload_n 3, 1) := by decide +kernel
theorem dX7_valuesOf_17 : decode cX7_valuesOf 17 = .ok (.ishr, 1) := by decide +kernel
theorem dX7_valuesOf_18 : decode cX7_valuesOf 18 = .ok (.iconst 1, 1) := by decide +kernel
theorem dX7_valuesOf_19 : decode cX7_valuesOf 19 = .ok (.iand, 1) := by decide +kernel
theorem dX7_valuesOf_20 : decode cX7_valuesOf 20 = .ok (.iconst 1, 1) := by decide +kernel
theorem dX7_valuesOf_21 : decode cX7_valuesOf 21 = .ok (.if_icmp .ne 12, 3) := by decide +kernel
theorem dX7_valuesOf_24 : decode cX7_valuesOf 24 = .ok (.aload_n 0, 1) := by decide +kernel
theorem dX7_valuesOf_25 : decode cX7_valuesOf 25 = .ok (.getfield 43, 3) := by decide +kernel
theorem dX7_valuesOf_28 : decode cX7_valuesOf 28 = .ok (.iload_n 3, 1) := by decide +kernel
theorem dX7_valuesOf_29 : decode cX7_valuesOf 29 = .ok (.iaload, 1) := by decide +kernel
theorem dX7_valuesOf_30 : decode cX7_valuesOf 30 = .ok (.goto 4, 3) := by decide +kernel
theorem dX7_valuesOf_33 : decode cX7_valuesOf 33 = .ok (.iconst 0, 1) := by decide +kernel
theorem dX7_valuesOf_34 : decode cX7_valuesOf 34 = .ok (.iadd, 1) := by decide +kernel
theorem dX7_valuesOf_35 : decode cX7_valuesOf 35 = .ok (.istore_n 2, 1) := by decide +kernel
theorem dX7_valuesOf_36 : decode cX7_valuesOf 36 = .ok (.iinc 3 1, 3) := by decide +kernel
theorem dX7_valuesOf_39 : decode cX7_valuesOf 39 = .ok (.goto (-35), 3) := by decide +kernel
theorem dX7_valuesOf_42 : decode cX7_valuesOf 42 = .ok (.iload_n 2, 1) := by decide +kernel
theorem dX7_valuesOf_43 : decode cX7_valuesOf 43 = .ok (.ireturn, 1) := by decide +kernel
theorem dX7_joyOf_0 : decode cX7_joyOf 0 = .ok (.iconst 0, 1) := by decide +kernel
theorem dX7_joyOf_1 : decode cX7_joyOf 1 = .ok (.istore_n 3, 1) := by decide +kernel
theorem dX7_joyOf_2 : decode cX7_joyOf 2 = .ok (.iconst 0, 1) := by decide +kernel
theorem dX7_joyOf_3 : decode cX7_joyOf 3 = .ok (.istore 4, 2) := by decide +kernel
theorem dX7_joyOf_5 : decode cX7_joyOf 5 = .ok (.iload 4, 2) := by decide +kernel
theorem dX7_joyOf_7 : decode cX7_joyOf 7 = .ok (.aload_n 0, 1) := by decide +kernel
theorem dX7_joyOf_8 : decode cX7_joyOf 8 = .ok (.getfield 7, 3) := by decide +kernel
theorem dX7_joyOf_11 : decode cX7_joyOf 11 = .ok (.iconst 0, 1) := by decide +kernel
theorem dX7_joyOf_12 : decode cX7_joyOf 12 = .ok (.iaload, 1) := by decide +kernel
theorem dX7_joyOf_13 : decode cX7_joyOf 13 = .ok (.if_icmp .ge 33, 3) := by decide +kernel
theorem dX7_joyOf_16 : decode cX7_joyOf 16 = .ok (.iload_n 3, 1) := by decide +kernel
theorem dX7_joyOf_17 : decode cX7_joyOf 17 = .ok (.iload_n 2, 1) := by decide +kernel
theorem dX7_joyOf_18 : decode cX7_joyOf 18 = .ok (.iload 4, 2) := by decide +kernel
theorem dX7_joyOf_20 : decode cX7_joyOf 20 = .ok (.ishr, 1) := by decide +kernel
theorem dX7_joyOf_21 : decode cX7_joyOf 21 = .ok (.iconst 1, 1) := by decide +kernel
theorem dX7_joyOf_22 : decode cX7_joyOf 22 = .ok (.iand, 1) := by decide +kernel
theorem dX7_joyOf_23 : decode cX7_joyOf 23 = .ok (.iconst 1, 1) := by decide +kernel
theorem dX7_joyOf_24 : decode cX7_joyOf 24 = .ok (.if_icmp .ne 13, 3) := by decide +kernel
theorem dX7_joyOf_27 : decode cX7_joyOf 27 = .ok (.aload_n 0, 1) := by decide +kernel
theorem dX7_joyOf_28 : decode cX7_joyOf 28 = .ok (.iload_n 1, 1) := by decide +kernel
theorem dX7_joyOf_29 : decode cX7_joyOf 29 = .ok (.iload 4, 2) := by decide +kernel
theorem dX7_joyOf_31 : decode cX7_joyOf 31 = .ok (.invokevirtual 178, 3) := by decide +kernel
theorem dX7_joyOf_34 : decode cX7_joyOf 34 = .ok (.goto 4, 3) := by decide +kernel
theorem dX7_joyOf_37 : decode cX7_joyOf 37 = .ok (.iconst 0, 1) := by decide +kernel
theorem dX7_joyOf_38 : decode cX7_joyOf 38 = .ok (.iadd, 1) := by decide +kernel
theorem dX7_joyOf_39 : decode cX7_joyOf 39 = .ok (.istore_n 3, 1) := by decide +kernel
theorem dX7_joyOf_40 : decode cX7_joyOf 40 = .ok (.iinc 4 1, 3) := by decide +kernel
theorem dX7_joyOf_43 : decode cX7_joyOf 43 = .ok (.goto (-38), 3) := by decide +kernel
theorem dX7_joyOf_46 : decode cX7_joyOf 46 = .ok (.iload_n 3, 1) := by decide +kernel
theorem dX7_joyOf_47 : decode cX7_joyOf 47 = .ok (.ireturn, 1) := by decide +kernel
theorem dX7_areApart_0 : decode cX7_areApart 0 = .ok (.iconst 0, 1) := by decide +kernel
theorem dX7_areApart_1 : decode cX7_areApart 1 = .ok (.istore_n 2, 1) := by decide +kernel
theorem dX7_areApart_2 : decode cX7_areApart 2 = .ok (.iload_n 2, 1) := by decide +kernel
theorem dX7_areApart_3 : decode cX7_areApart 3 = .ok (.aload_n 0, 1) := by decide +kernel
theorem dX7_areApart_4 : decode cX7_areApart 4 = .ok (.getfield 7, 3) := by decide +kernel
theorem dX7_areApart_7 : decode cX7_areApart 7 = .ok (.iconst 0, 1) := by decide +kernel
theorem dX7_areApart_8 : decode cX7_areApart 8 = .ok (.iaload, 1) := by decide +kernel
theorem dX7_areApart_9 : decode cX7_areApart 9 = .ok (.if_icmp .ge 59, 3) := by decide +kernel
theorem dX7_areApart_12 : decode cX7_areApart 12 = .ok (.iload_n 2, 1) := by decide +kernel
theorem dX7_areApart_13 : decode cX7_areApart 13 = .ok (.iconst 1, 1) := by decide +kernel
theorem dX7_areApart_14 : decode cX7_areApart 14 = .ok (.iadd, 1) := by decide +kernel
theorem dX7_areApart_15 : decode cX7_areApart 15 = .ok (.istore_n 3, 1) := by decide +kernel
theorem dX7_areApart_16 : decode cX7_areApart 16 = .ok (.iload_n 3, 1) := by decide +kernel
theorem dX7_areApart_17 : decode cX7_areApart 17 = .ok (.aload_n 0, 1) := by decide +kernel
theorem dX7_areApart_18 : decode cX7_areApart 18 = .ok (.getfield 7, 3) := by decide +kernel
theorem dX7_areApart_21 : decode cX7_areApart 21 = .ok (.iconst 0, 1) := by decide +kernel
theorem dX7_areApart_22 : decode cX7_areApart 22 = .ok (.iaload, 1) := by decide +kernel
theorem dX7_areApart_23 : decode cX7_areApart 23 = .ok (.if_icmp .ge 39, 3) := by decide +kernel
theorem dX7_areApart_26 : decode cX7_areApart 26 = .ok (.iload_n 1, 1) := by decide +kernel
theorem dX7_areApart_27 : decode cX7_areApart 27 = .ok (.iload_n 2, 1) := by decide +kernel
theorem dX7_areApart_28 : decode cX7_areApart 28 = .ok (.ishr, 1) := by decide +kernel
theorem dX7_areApart_29 : decode cX7_areApart 29 = .ok (.iload_n 1, 1) := by decide +kernel
theorem dX7_areApart_30 : decode cX7_areApart 30 = .ok (.iload_n 3, 1) := by decide +kernel
theorem dX7_areApart_31 : decode cX7_areApart 31 = .ok (.ishr, 1) := by decide +kernel
theorem dX7_areApart_32 : decode cX7_areApart 32 = .ok (.iand, 1) := by decide +kernel
theorem dX7_areApart_33 : decode cX7_areApart 33 = .ok (.iconst 1, 1) := by decide +kernel
theorem dX7_areApart_34 : decode cX7_areApart 34 = .ok (.iand, 1) := by decide +kernel
theorem dX7_areApart_35 : decode cX7_areApart 35 = .ok (.iconst 1, 1) := by decide +kernel
theorem dX7_areApart_36 : decode cX7_areApart 36 = .ok (.if_icmp .ne 20, 3) := by decide +kernel
theorem dX7_areApart_39 : decode cX7_areApart 39 = .ok (.aload_n 0, 1) := by decide +kernel
theorem dX7_areApart_40 : decode cX7_areApart 40 = .ok (.iload_n 2, 1) := by decide +kernel
theorem dX7_areApart_41 : decode cX7_areApart 41 = .ok (.iconst 1, 1) := by decide +kernel
theorem dX7_areApart_42 : decode cX7_areApart 42 = .ok (.invokevirtual 97, 3) := by decide +kernel
theorem dX7_areApart_45 : decode cX7_areApart 45 = .ok (.aload_n 0, 1) := by decide +kernel
theorem dX7_areApart_46 : decode cX7_areApart 46 = .ok (.iload_n 3, 1) := by decide +kernel
theorem dX7_areApart_47 : decode cX7_areApart 47 = .ok (.iconst 1, 1) := by decide +kernel
theorem dX7_areApart_48 : decode cX7_areApart 48 = .ok (.invokevirtual 97, 3) := by decide +kernel
theorem dX7_areApart_51 : decode cX7_areApart 51 = .ok (.if_icmp .ne 5, 3) := by decide +kernel
theorem dX7_areApart_54 : decode cX7_areApart 54 = .ok (.iconst 0, 1) := by decide +kernel
theorem dX7_areApart_55 : decode cX7_areApart 55 = .ok (.ireturn, 1) := by decide +kernel
theorem dX7_areApart_56 : decode cX7_areApart 56 = .ok (.iinc 3 1, 3) := by decide +kernel
theorem dX7_areApart_59 : decode cX7_areApart 59 = .ok (.goto (-43), 3) := by decide +kernel
theorem dX7_areApart_62 : decode cX7_areApart 62 = .ok (.iinc 2 1, 3) := by decide +kernel
theorem dX7_areApart_65 : decode cX7_areApart 65 = .ok (.goto (-63), 3) := by decide +kernel
theorem dX7_areApart_68 : decode cX7_areApart 68 = .ok (.iconst 1, 1) := by decide +kernel
theorem dX7_areApart_69 : decode cX7_areApart 69 = .ok (.ireturn, 1) := by decide +kernel
theorem dX7_fill_0 : decode cX7_fill 0 = .ok (.iload_n 1, 1) := by decide +kernel
theorem dX7_fill_1 : decode cX7_fill 1 = .ok (.invokestatic 83, 3) := by decide +kernel
theorem dX7_fill_4 : decode cX7_fill 4 = .ok (.ifCond .eq 15, 3) := by decide +kernel
theorem dX7_fill_7 : decode cX7_fill 7 = .ok (.iload_n 2, 1) := by decide +kernel
theorem dX7_fill_8 : decode cX7_fill 8 = .ok (.i2l, 1) := by decide +kernel
theorem dX7_fill_9 : decode cX7_fill 9 = .ok (.lconst 0, 1) := by decide +kernel
theorem dX7_fill_10 : decode cX7_fill 10 = .ok (.ldc2_w 135, 3) := by decide +kernel
theorem dX7_fill_13 : decode cX7_fill 13 = .ok (.invokestatic 68, 3) := by decide +kernel
theorem dX7_fill_16 : decode cX7_fill 16 = .ok (.ifCond .ne 6, 3) := by decide +kernel
theorem dX7_fill_19 : decode cX7_fill 19 = .ok (.ldc 87, 2) := by decide +kernel
theorem dX7_fill_21 : decode cX7_fill 21 = .ok (.ireturn, 1) := by decide +kernel
theorem dX7_fill_22 : decode cX7_fill 22 = .ok (.iconst 0, 1) := by decide +kernel
theorem dX7_fill_23 : decode cX7_fill 23 = .ok (.istore_n 3, 1) := by decide +kernel
theorem dX7_fill_24 : decode cX7_fill 24 = .ok (.iload_n 3, 1) := by decide +kernel
theorem dX7_fill_25 : decode cX7_fill 25 = .ok (.aload_n 0, 1) := by decide +kernel
theorem dX7_fill_26 : decode cX7_fill 26 = .ok (.getfield 7, 3) := by decide +kernel
theorem dX7_fill_29 : decode cX7_fill 29 = .ok (.iconst 0, 1) := by decide +kernel
theorem dX7_fill_30 : decode cX7_fill 30 = .ok (.iaload, 1) := by decide +kernel
theorem dX7_fill_31 : decode cX7_fill 31 = .ok (.if_icmp .ge 20, 3) := by decide +kernel
theorem dX7_fill_34 : decode cX7_fill 34 = .ok (.aload_n 0, 1) := by decide +kernel
theorem dX7_fill_35 : decode cX7_fill 35 = .ok (.getfield 43, 3) := by decide +kernel
theorem dX7_fill_38 : decode cX7_fill 38 = .ok (.iload_n 3, 1) := by decide +kernel
theorem dX7_fill_39 : decode cX7_fill 39 = .ok (.aload_n 0, 1) := by decide +kernel
theorem dX7_fill_40 : decode cX7_fill 40 = .ok (.iload_n 3, 1) := by decide +kernel
theorem dX7_fill_41 : decode cX7_fill 41 = .ok (.invokevirtual 110, 3) := by decide +kernel
theorem dX7_fill_44 : decode cX7_fill 44 = .ok (.iastore, 1) := by decide +kernel
theorem dX7_fill_45 : decode cX7_fill 45 = .ok (.iinc 3 1, 3) := by decide +kernel
theorem dX7_fill_48 : decode cX7_fill 48 = .ok (.goto (-24), 3) := by decide +kernel
theorem dX7_fill_51 : decode cX7_fill 51 = .ok (.aload_n 0, 1) := by decide +kernel
theorem dX7_fill_52 : decode cX7_fill 52 = .ok (.iload_n 1, 1) := by decide +kernel
theorem dX7_fill_53 : decode cX7_fill 53 = .ok (.invokevirtual 137, 3) := by decide +kernel
theorem dX7_fill_56 : decode cX7_fill 56 = .ok (.istore_n 3, 1) := by decide +kernel
theorem dX7_fill_57 : decode cX7_fill 57 = .ok (.iconst 0, 1) := by decide +kernel
theorem dX7_fill_58 : decode cX7_fill 58 = .ok (.istore 4, 2) := by decide +kernel
theorem dX7_fill_60 : decode cX7_fill 60 = .ok (.iconst 0, 1) := by decide +kernel
theorem dX7_fill_61 : decode cX7_fill 61 = .ok (.istore 5, 2) := by decide +kernel
theorem dX7_fill_63 : decode cX7_fill 63 = .ok (.iconst 1, 1) := by decide +kernel
theorem dX7_fill_64 : decode cX7_fill 64 = .ok (.istore 6, 2) := by decide +kernel
theorem dX7_fill_66 : decode cX7_fill 66 = .ok (.iload 6, 2) := by decide +kernel
theorem dX7_fill_68 : decode cX7_fill 68 = .ok (.iconst 1, 1) := by decide +kernel
theorem dX7_fill_69 : decode cX7_fill 69 = .ok (.aload_n 0, 1) := by decide +kernel
theorem dX7_fill_70 : decode cX7_fill 70 = .ok (.getfield 7, 3) := by decide +kernel
theorem dX7_fill_73 : decode cX7_fill 73 = .ok (.iconst 0, 1) := by decide +kernel
theorem dX7_fill_74 : decode cX7_fill 74 = .ok (.iaload, 1) := by decide +kernel
theorem dX7_fill_75 : decode cX7_fill 75 = .ok (.ishl, 1) := by decide +kernel
theorem dX7_fill_76 : decode cX7_fill 76 = .ok (.if_icmp .ge 99, 3) := by decide +kernel
theorem dX7_fill_79 : decode cX7_fill 79 = .ok (.aload_n 0, 1) := by decide +kernel
theorem dX7_fill_80 : decode cX7_fill 80 = .ok (.iload_n 1, 1) := by decide +kernel
theorem dX7_fill_81 : decode cX7_fill 81 = .ok (.iload 6, 2) := by decide +kernel
theorem dX7_fill_83 : decode cX7_fill 83 = .ok (.invokevirtual 181, 3) := by decide +kernel
theorem dX7_fill_86 : decode cX7_fill 86 = .ok (.istore 7, 2) := by decide +kernel
theorem dX7_fill_88 : decode cX7_fill 88 = .ok (.iload 7, 2) := by decide +kernel
theorem dX7_fill_90 : decode cX7_fill 90 = .ok (.iload 5, 2) := by decide +kernel
theorem dX7_fill_92 : decode cX7_fill 92 = .ok (.if_icmp .gt 23, 3) := by decide +kernel
theorem dX7_fill_95 : decode cX7_fill 95 = .ok (.iload 7, 2) := by decide +kernel
theorem dX7_fill_97 : decode cX7_fill 97 = .ok (.iload 5, 2) := by decide +kernel
theorem dX7_fill_99 : decode cX7_fill 99 = .ok (.if_icmp .ne 20, 3) := by decide +kernel
theorem dX7_fill_102 : decode cX7_fill 102 = .ok (.iload 6, 2) := by decide +kernel
theorem dX7_fill_104 : decode cX7_fill 104 = .ok (.invokestatic 184, 3) := by decide +kernel
theorem dX7_fill_107 : decode cX7_fill 107 = .ok (.iload 4, 2) := by decide +kernel
theorem dX7_fill_109 : decode cX7_fill 109 = .ok (.invokestatic 184, 3) := by decide +kernel
theorem dX7_fill_112 : decode cX7_fill 112 = .ok (.if_icmp .ge 7, 3) := by decide +kernel
theorem dX7_fill_115 : decode cX7_fill 115 = .ok (.iconst 1, 1) := by decide +kernel
theorem dX7_fill_116 : decode cX7_fill 116 = .ok (.goto 4, 3) := by decide +kernel
theorem dX7_fill_119 : decode cX7_fill 119 = .ok (.iconst 0, 1) := by decide +kernel
theorem dX7_fill_120 : decode cX7_fill 120 = .ok (.istore 8, 2) := by decide +kernel
theorem dX7_fill_122 : decode cX7_fill 122 = .ok (.iload 8, 2) := by decide +kernel
theorem dX7_fill_124 : decode cX7_fill 124 = .ok (.ifCond .eq 45, 3) := by decide +kernel
theorem dX7_fill_127 : decode cX7_fill 127 = .ok (.iload 6, 2) := by decide +kernel
theorem dX7_fill_129 : decode cX7_fill 129 = .ok (.iload_n 3, 1) := by decide +kernel
theorem dX7_fill_130 : decode cX7_fill 130 = .ok (.iand, 1) := by decide +kernel
theorem dX7_fill_131 : decode cX7_fill 131 = .ok (.ifCond .ne 38, 3) := by decide +kernel
theorem dX7_fill_134 : decode cX7_fill 134 = .ok (.aload_n 0, 1) := by decide +kernel
theorem dX7_fill_135 : decode cX7_fill 135 = .ok (.iload 6, 2) := by decide +kernel
theorem dX7_fill_137 : decode cX7_fill 137 = .ok (.invokevirtual 187, 3) := by decide +kernel
theorem dX7_fill_140 : decode cX7_fill 140 = .ok (.aload_n 0, 1) := by decide +kernel
theorem dX7_fill_141 : decode cX7_fill 141 = .ok (.getfield 7, 3) := by decide +kernel
theorem dX7_fill_144 : decode cX7_fill 144 = .ok (.bipush 6, 2) := by decide +kernel
theorem dX7_fill_146 : decode cX7_fill 146 = .ok (.iload_n 1, 1) := by decide +kernel
theorem dX7_fill_147 : decode cX7_fill 147 = .ok (.iadd, 1) := by decide +kernel
theorem dX7_fill_148 : decode cX7_fill 148 = .ok (.iaload, 1) := by decide +kernel
theorem dX7_fill_149 : decode cX7_fill 149 = .ok (.if_icmp .gt 20, 3) := by decide +kernel
theorem dX7_fill_152 : decode cX7_fill 152 = .ok (.aload_n 0, 1) := by decide +kernel
theorem dX7_fill_153 : decode cX7_fill 153 = .ok (.iload 6, 2) := by decide +kernel
theorem dX7_fill_155 : decode cX7_fill 155 = .ok (.invokevirtual 190, 3) := by decide +kernel
theorem dX7_fill_158 : decode cX7_fill 158 = .ok (.ifCond .eq 11, 3) := by decide +kernel
theorem dX7_fill_161 : decode cX7_fill 161 = .ok (.iload 6, 2) := by decide +kernel
theorem dX7_fill_163 : decode cX7_fill 163 = .ok (.istore 4, 2) := by decide +kernel
theorem dX7_fill_165 : decode cX7_fill 165 = .ok (.iload 7, 2) := by decide +kernel
theorem dX7_fill_167 : decode cX7_fill 167 = .ok (.istore 5, 2) := by decide +kernel
theorem dX7_fill_169 : decode cX7_fill 169 = .ok (.iinc 6 1, 3) := by decide +kernel
theorem dX7_fill_172 : decode cX7_fill 172 = .ok (.goto (-106), 3) := by decide +kernel
theorem dX7_fill_175 : decode cX7_fill 175 = .ok (.iload_n 2, 1) := by decide +kernel
theorem dX7_fill_176 : decode cX7_fill 176 = .ok (.ifCond .ne 8, 3) := by decide +kernel
theorem dX7_fill_179 : decode cX7_fill 179 = .ok (.iload 4, 2) := by decide +kernel
theorem dX7_fill_181 : decode cX7_fill 181 = .ok (.goto 19, 3) := by decide +kernel
theorem dX7_fill_184 : decode cX7_fill 184 = .ok (.iload_n 2, 1) := by decide +kernel
theorem dX7_fill_185 : decode cX7_fill 185 = .ok (.iconst 1, 1) := by decide +kernel
theorem dX7_fill_186 : decode cX7_fill 186 = .ok (.if_icmp .ne 8, 3) := by decide +kernel
theorem dX7_fill_189 : decode cX7_fill 189 = .ok (.iload 5, 2) := by decide +kernel
theorem dX7_fill_191 : decode cX7_fill 191 = .ok (.goto 9, 3) := by decide +kernel
theorem dX7_fill_194 : decode cX7_fill 194 = .ok (.aload_n 0, 1) := by decide +kernel
theorem dX7_fill_195 : decode cX7_fill 195 = .ok (.iload 4, 2) := by decide +kernel
theorem dX7_fill_197 : decode cX7_fill 197 = .ok (.invokevirtual 187, 3) := by decide +kernel
theorem dX7_fill_200 : decode cX7_fill 200 = .ok (.ireturn, 1) := by decide +kernel
theorem dX7_laysBy_0 : decode cX7_laysBy 0 = .ok (.iconst 0, 1) := by decide +kernel
theorem dX7_laysBy_1 : decode cX7_laysBy 1 = .ok (.istore_n 1, 1) := by decide +kernel
theorem dX7_laysBy_2 : decode cX7_laysBy 2 = .ok (.iload_n 1, 1) := by decide +kernel
theorem dX7_laysBy_3 : decode cX7_laysBy 3 = .ok (.bipush 78, 2) := by decide +kernel
theorem dX7_laysBy_5 : decode cX7_laysBy 5 = .ok (.if_icmp .ge 21, 3) := by decide +kernel
theorem dX7_laysBy_8 : decode cX7_laysBy 8 = .ok (.aload_n 0, 1) := by decide +kernel
theorem dX7_laysBy_9 : decode cX7_laysBy 9 = .ok (.getfield 46, 3) := by decide +kernel
theorem dX7_laysBy_12 : decode cX7_laysBy 12 = .ok (.iload_n 1, 1) := by decide +kernel
theorem dX7_laysBy_13 : decode cX7_laysBy 13 = .ok (.aload_n 0, 1) := by decide +kernel
theorem dX7_laysBy_14 : decode cX7_laysBy 14 = .ok (.getfield 7, 3) := by decide +kernel
theorem dX7_laysBy_17 : decode cX7_laysBy 17 = .ok (.iload_n 1, 1) := by decide +kernel
theorem dX7_laysBy_18 : decode cX7_laysBy 18 = .ok (.iaload, 1) := by decide +kernel
theorem dX7_laysBy_19 : decode cX7_laysBy 19 = .ok (.iastore, 1) := by decide +kernel
theorem dX7_laysBy_20 : decode cX7_laysBy 20 = .ok (.iinc 1 1, 3) := by decide +kernel
theorem dX7_laysBy_23 : decode cX7_laysBy 23 = .ok (.goto (-21), 3) := by decide +kernel
theorem dX7_laysBy_26 : decode cX7_laysBy 26 = .ok (.return_, 1) := by decide +kernel
theorem dX7_laysBack_0 : decode cX7_laysBack 0 = .ok (.iconst 0, 1) := by decide +kernel
theorem dX7_laysBack_1 : decode cX7_laysBack 1 = .ok (.istore_n 1, 1) := by decide +kernel
theorem dX7_laysBack_2 : decode cX7_laysBack 2 = .ok (.iload_n 1, 1) := by decide +kernel
theorem dX7_laysBack_3 : decode cX7_laysBack 3 = .ok (.bipush 78, 2) := by decide +kernel
theorem dX7_laysBack_5 : decode cX7_laysBack 5 = .ok (.if_icmp .ge 21, 3) := by decide +kernel
theorem dX7_laysBack_8 : decode cX7_laysBack 8 = .ok (.aload_n 0, 1) := by decide +kernel
theorem dX7_laysBack_9 : decode cX7_laysBack 9 = .ok (.getfield 7, 3) := by decide +kernel
theorem dX7_laysBack_12 : decode cX7_laysBack 12 = .ok (.iload_n 1, 1) := by decide +kernel
theorem dX7_laysBack_13 : decode cX7_laysBack 13 = .ok (.aload_n 0, 1) := by decide +kernel
theorem dX7_laysBack_14 : decode cX7_laysBack 14 = .ok (.getfield 46, 3) := by decide +kernel
theorem dX7_laysBack_17 : decode cX7_laysBack 17 = .ok (.iload_n 1, 1) := by decide +kernel
theorem dX7_laysBack_18 : decode cX7_laysBack 18 = .ok (.iaload, 1) := by decide +kernel
theorem dX7_laysBack_19 : decode cX7_laysBack 19 = .ok (.iastore, 1) := by decide +kernel
theorem dX7_laysBack_20 : decode cX7_laysBack 20 = .ok (.iinc 1 1, 3) := by decide +kernel
theorem dX7_laysBack_23 : decode cX7_laysBack 23 = .ok (.goto (-21), 3) := by decide +kernel
theorem dX7_laysBack_26 : decode cX7_laysBack 26 = .ok (.return_, 1) := by decide +kernel
theorem dX7_goesOnMany_0 : decode cX7_goesOnMany 0 = .ok (.iconst 0, 1) := by decide +kernel
theorem dX7_goesOnMany_1 : decode cX7_goesOnMany 1 = .ok (.istore_n 2, 1) := by decide +kernel
theorem dX7_goesOnMany_2 : decode cX7_goesOnMany 2 = .ok (.iload_n 2, 1) := by decide +kernel
theorem dX7_goesOnMany_3 : decode cX7_goesOnMany 3 = .ok (.iload_n 1, 1) := by decide +kernel
theorem dX7_goesOnMany_4 : decode cX7_goesOnMany 4 = .ok (.if_icmp .ge 13, 3) := by decide +kernel
theorem dX7_goesOnMany_7 : decode cX7_goesOnMany 7 = .ok (.aload_n 0, 1) := by decide +kernel
theorem dX7_goesOnMany_8 : decode cX7_goesOnMany 8 = .ok (.invokevirtual 163, 3) := by decide +kernel
theorem dX7_goesOnMany_11 : decode cX7_goesOnMany 11 = .ok (.iinc 2 1, 3) := by decide +kernel
theorem dX7_goesOnMany_14 : decode cX7_goesOnMany 14 = .ok (.goto (-12), 3) := by decide +kernel
theorem dX7_goesOnMany_17 : decode cX7_goesOnMany 17 = .ok (.return_, 1) := by decide +kernel
theorem dX7_emptied_0 : decode cX7_emptied 0 = .ok (.iload_n 1, 1) := by decide +kernel
theorem dX7_emptied_1 : decode cX7_emptied 1 = .ok (.invokestatic 83, 3) := by decide +kernel
theorem dX7_emptied_4 : decode cX7_emptied 4 = .ok (.ifCond .ne 6, 3) := by decide +kernel
theorem dX7_emptied_7 : decode cX7_emptied 7 = .ok (.ldc 87, 2) := by decide +kernel
theorem dX7_emptied_9 : decode cX7_emptied 9 = .ok (.ireturn, 1) := by decide +kernel
theorem dX7_emptied_10 : decode cX7_emptied 10 = .ok (.aload_n 0, 1) := by decide +kernel
theorem dX7_emptied_11 : decode cX7_emptied 11 = .ok (.invokevirtual 193, 3) := by decide +kernel
theorem dX7_emptied_14 : decode cX7_emptied 14 = .ok (.aload_n 0, 1) := by decide +kernel
theorem dX7_emptied_15 : decode cX7_emptied 15 = .ok (.iload_n 1, 1) := by decide +kernel
theorem dX7_emptied_16 : decode cX7_emptied 16 = .ok (.invokevirtual 137, 3) := by decide +kernel
theorem dX7_emptied_19 : decode cX7_emptied 19 = .ok (.istore_n 2, 1) := by decide +kernel
theorem dX7_emptied_20 : decode cX7_emptied 20 = .ok (.iconst 0, 1) := by decide +kernel
theorem dX7_emptied_21 : decode cX7_emptied 21 = .ok (.istore_n 3, 1) := by decide +kernel
theorem dX7_emptied_22 : decode cX7_emptied 22 = .ok (.iload_n 3, 1) := by decide +kernel
theorem dX7_emptied_23 : decode cX7_emptied 23 = .ok (.aload_n 0, 1) := by decide +kernel
theorem dX7_emptied_24 : decode cX7_emptied 24 = .ok (.getfield 7, 3) := by decide +kernel
theorem dX7_emptied_27 : decode cX7_emptied 27 = .ok (.iconst 0, 1) := by decide +kernel
theorem dX7_emptied_28 : decode cX7_emptied 28 = .ok (.iaload, 1) := by decide +kernel
theorem dX7_emptied_29 : decode cX7_emptied 29 = .ok (.if_icmp .ge 39, 3) := by decide +kernel
theorem dX7_emptied_32 : decode cX7_emptied 32 = .ok (.iload_n 2, 1) := by decide +kernel
theorem dX7_emptied_33 : decode cX7_emptied 33 = .ok (.iload_n 3, 1) := by decide +kernel
theorem dX7_emptied_34 : decode cX7_emptied 34 = .ok (.ishr, 1) := by decide +kernel
theorem dX7_emptied_35 : decode cX7_emptied 35 = .ok (.iconst 1, 1) := by decide +kernel
theorem dX7_emptied_36 : decode cX7_emptied 36 = .ok (.iand, 1) := by decide +kernel
theorem dX7_emptied_37 : decode cX7_emptied 37 = .ok (.iconst 1, 1) := by decide +kernel
theorem dX7_emptied_38 : decode cX7_emptied 38 = .ok (.if_icmp .ne 24, 3) := by decide +kernel
theorem dX7_emptied_41 : decode cX7_emptied 41 = .ok (.aload_n 0, 1) := by decide +kernel
theorem dX7_emptied_42 : decode cX7_emptied 42 = .ok (.iload_n 3, 1) := by decide +kernel
theorem dX7_emptied_43 : decode cX7_emptied 43 = .ok (.invokevirtual 158, 3) := by decide +kernel
theorem dX7_emptied_46 : decode cX7_emptied 46 = .ok (.istore 4, 2) := by decide +kernel
theorem dX7_emptied_48 : decode cX7_emptied 48 = .ok (.aload_n 0, 1) := by decide +kernel
theorem dX7_emptied_49 : decode cX7_emptied 49 = .ok (.iload_n 3, 1) := by decide +kernel
theorem dX7_emptied_50 : decode cX7_emptied 50 = .ok (.iload 4, 2) := by decide +kernel
theorem dX7_emptied_52 : decode cX7_emptied 52 = .ok (.aload_n 0, 1) := by decide +kernel
theorem dX7_emptied_53 : decode cX7_emptied 53 = .ok (.iload 4, 2) := by decide +kernel
theorem dX7_emptied_55 : decode cX7_emptied 55 = .ok (.iload_n 3, 1) := by decide +kernel
theorem dX7_emptied_56 : decode cX7_emptied 56 = .ok (.invokevirtual 142, 3) := by decide +kernel
theorem dX7_emptied_59 : decode cX7_emptied 59 = .ok (.invokevirtual 152, 3) := by decide +kernel
theorem dX7_emptied_62 : decode cX7_emptied 62 = .ok (.iinc 3 1, 3) := by decide +kernel
theorem dX7_emptied_65 : decode cX7_emptied 65 = .ok (.goto (-43), 3) := by decide +kernel
theorem dX7_emptied_68 : decode cX7_emptied 68 = .ok (.aload_n 0, 1) := by decide +kernel
theorem dX7_emptied_69 : decode cX7_emptied 69 = .ok (.getfield 7, 3) := by decide +kernel
theorem dX7_emptied_72 : decode cX7_emptied 72 = .ok (.bipush 6, 2) := by decide +kernel
theorem dX7_emptied_74 : decode cX7_emptied 74 = .ok (.iload_n 1, 1) := by decide +kernel
theorem dX7_emptied_75 : decode cX7_emptied 75 = .ok (.iadd, 1) := by decide +kernel
theorem dX7_emptied_76 : decode cX7_emptied 76 = .ok (.iaload, 1) := by decide +kernel
theorem dX7_emptied_77 : decode cX7_emptied 77 = .ok (.aload_n 0, 1) := by decide +kernel
theorem dX7_emptied_78 : decode cX7_emptied 78 = .ok (.getfield 46, 3) := by decide +kernel
theorem dX7_emptied_81 : decode cX7_emptied 81 = .ok (.bipush 6, 2) := by decide +kernel
theorem dX7_emptied_83 : decode cX7_emptied 83 = .ok (.iload_n 1, 1) := by decide +kernel
theorem dX7_emptied_84 : decode cX7_emptied 84 = .ok (.iadd, 1) := by decide +kernel
theorem dX7_emptied_85 : decode cX7_emptied 85 = .ok (.iaload, 1) := by decide +kernel
theorem dX7_emptied_86 : decode cX7_emptied 86 = .ok (.isub, 1) := by decide +kernel
theorem dX7_emptied_87 : decode cX7_emptied 87 = .ok (.istore_n 3, 1) := by decide +kernel
theorem dX7_emptied_88 : decode cX7_emptied 88 = .ok (.aload_n 0, 1) := by decide +kernel
theorem dX7_emptied_89 : decode cX7_emptied 89 = .ok (.invokevirtual 196, 3) := by decide +kernel
theorem dX7_emptied_92 : decode cX7_emptied 92 = .ok (.iload_n 3, 1) := by decide +kernel
theorem dX7_emptied_93 : decode cX7_emptied 93 = .ok (.ireturn, 1) := by decide +kernel
theorem dX7_behind_0 : decode cX7_behind 0 = .ok (.aload_n 0, 1) := by decide +kernel
theorem dX7_behind_1 : decode cX7_behind 1 = .ok (.iload_n 1, 1) := by decide +kernel
theorem dX7_behind_2 : decode cX7_behind 2 = .ok (.invokevirtual 117, 3) := by decide +kernel
theorem dX7_behind_5 : decode cX7_behind 5 = .ok (.ifCond .eq 27, 3) := by decide +kernel
theorem dX7_behind_8 : decode cX7_behind 8 = .ok (.iload_n 2, 1) := by decide +kernel
theorem dX7_behind_9 : decode cX7_behind 9 = .ok (.i2l, 1) := by decide +kernel
theorem dX7_behind_10 : decode cX7_behind 10 = .ok (.lconst 0, 1) := by decide +kernel
theorem dX7_behind_11 : decode cX7_behind 11 = .ok (.ldc2_w 161, 3) := by decide +kernel
theorem dX7_behind_14 : decode cX7_behind 14 = .ok (.invokestatic 68, 3) := by decide +kernel
theorem dX7_behind_17 : decode cX7_behind 17 = .ok (.ifCond .eq 15, 3) := by decide +kernel
theorem dX7_behind_20 : decode cX7_behind 20 = .ok (.iload_n 3, 1) := by decide +kernel
theorem dX7_behind_21 : decode cX7_behind 21 = .ok (.i2l, 1) := by decide +kernel
theorem dX7_behind_22 : decode cX7_behind 22 = .ok (.lconst 0, 1) := by decide +kernel
theorem dX7_behind_23 : decode cX7_behind 23 = .ok (.ldc2_w 199, 3) := by decide +kernel
theorem dX7_behind_26 : decode cX7_behind 26 = .ok (.invokestatic 68, 3) := by decide +kernel
theorem dX7_behind_29 : decode cX7_behind 29 = .ok (.ifCond .ne 6, 3) := by decide +kernel
theorem dX7_behind_32 : decode cX7_behind 32 = .ok (.ldc 87, 2) := by decide +kernel
theorem dX7_behind_34 : decode cX7_behind 34 = .ok (.ireturn, 1) := by decide +kernel
theorem dX7_behind_35 : decode cX7_behind 35 = .ok (.aload_n 0, 1) := by decide +kernel
theorem dX7_behind_36 : decode cX7_behind 36 = .ok (.invokevirtual 193, 3) := by decide +kernel
theorem dX7_behind_39 : decode cX7_behind 39 = .ok (.aload_n 0, 1) := by decide +kernel
theorem dX7_behind_40 : decode cX7_behind 40 = .ok (.iload_n 2, 1) := by decide +kernel
theorem dX7_behind_41 : decode cX7_behind 41 = .ok (.invokevirtual 201, 3) := by decide +kernel
theorem dX7_behind_44 : decode cX7_behind 44 = .ok (.iload_n 3, 1) := by decide +kernel
theorem dX7_behind_45 : decode cX7_behind 45 = .ok (.ifCond .ne 12, 3) := by decide +kernel
theorem dX7_behind_48 : decode cX7_behind 48 = .ok (.aload_n 0, 1) := by decide +kernel
theorem dX7_behind_49 : decode cX7_behind 49 = .ok (.iload_n 1, 1) := by decide +kernel
theorem dX7_behind_50 : decode cX7_behind 50 = .ok (.iconst 4, 1) := by decide +kernel
theorem dX7_behind_51 : decode cX7_behind 51 = .ok (.invokevirtual 97, 3) := by decide +kernel
theorem dX7_behind_54 : decode cX7_behind 54 = .ok (.goto 34, 3) := by decide +kernel
theorem dX7_behind_57 : decode cX7_behind 57 = .ok (.iload_n 3, 1) := by decide +kernel
theorem dX7_behind_58 : decode cX7_behind 58 = .ok (.iconst 1, 1) := by decide +kernel
theorem dX7_behind_59 : decode cX7_behind 59 = .ok (.if_icmp .ne 11, 3) := by decide +kernel
theorem dX7_behind_62 : decode cX7_behind 62 = .ok (.aload_n 0, 1) := by decide +kernel
theorem dX7_behind_63 : decode cX7_behind 63 = .ok (.iload_n 1, 1) := by decide +kernel
theorem dX7_behind_64 : decode cX7_behind 64 = .ok (.invokevirtual 110, 3) := by decide +kernel
theorem dX7_behind_67 : decode cX7_behind 67 = .ok (.goto 21, 3) := by decide +kernel
theorem dX7_behind_70 : decode cX7_behind 70 = .ok (.iload_n 3, 1) := by decide +kernel
theorem dX7_behind_71 : decode cX7_behind 71 = .ok (.iconst 2, 1) := by decide +kernel
theorem dX7_behind_72 : decode cX7_behind 72 = .ok (.if_icmp .ne 10, 3) := by decide +kernel
theorem dX7_behind_75 : decode cX7_behind 75 = .ok (.aload_n 0, 1) := by decide +kernel
theorem dX7_behind_76 : decode cX7_behind 76 = .ok (.invokevirtual 166, 3) := by decide +kernel
theorem dX7_behind_79 : decode cX7_behind 79 = .ok (.goto 9, 3) := by decide +kernel
theorem dX7_behind_82 : decode cX7_behind 82 = .ok (.aload_n 0, 1) := by decide +kernel
theorem dX7_behind_83 : decode cX7_behind 83 = .ok (.getfield 7, 3) := by decide +kernel
theorem dX7_behind_86 : decode cX7_behind 86 = .ok (.iload_n 3, 1) := by decide +kernel
theorem dX7_behind_87 : decode cX7_behind 87 = .ok (.iaload, 1) := by decide +kernel
theorem dX7_behind_88 : decode cX7_behind 88 = .ok (.istore 4, 2) := by decide +kernel
theorem dX7_behind_90 : decode cX7_behind 90 = .ok (.aload_n 0, 1) := by decide +kernel
theorem dX7_behind_91 : decode cX7_behind 91 = .ok (.invokevirtual 196, 3) := by decide +kernel
theorem dX7_behind_94 : decode cX7_behind 94 = .ok (.iload 4, 2) := by decide +kernel
theorem dX7_behind_96 : decode cX7_behind 96 = .ok (.ireturn, 1) := by decide +kernel
theorem dX7_richestNow_0 : decode cX7_richestNow 0 = .ok (.iconst 0, 1) := by decide +kernel
theorem dX7_richestNow_1 : decode cX7_richestNow 1 = .ok (.istore_n 1, 1) := by decide +kernel
theorem dX7_richestNow_2 : decode cX7_richestNow 2 = .ok (.iconst 1, 1) := by decide +kernel
theorem dX7_richestNow_3 : decode cX7_richestNow 3 = .ok (.istore_n 2, 1) := by decide +kernel
theorem dX7_richestNow_4 : decode cX7_richestNow 4 = .ok (.iload_n 2, 1) := by decide +kernel
theorem dX7_richestNow_5 : decode cX7_richestNow 5 = .ok (.bipush 6, 2) := by decide +kernel
theorem dX7_richestNow_7 : decode cX7_richestNow 7 = .ok (.if_icmp .ge 36, 3) := by decide +kernel
theorem dX7_richestNow_10 : decode cX7_richestNow 10 = .ok (.aload_n 0, 1) := by decide +kernel
theorem dX7_richestNow_11 : decode cX7_richestNow 11 = .ok (.getfield 7, 3) := by decide +kernel
theorem dX7_richestNow_14 : decode cX7_richestNow 14 = .ok (.bipush 6, 2) := by decide +kernel
theorem dX7_richestNow_16 : decode cX7_richestNow 16 = .ok (.iload_n 2, 1) := by decide +kernel
theorem dX7_richestNow_17 : decode cX7_richestNow 17 = .ok (.iadd, 1) := by decide +kernel
theorem dX7_richestNow_18 : decode cX7_richestNow 18 = .ok (.iaload, 1) := by decide +kernel
theorem dX7_richestNow_19 : decode cX7_richestNow 19 = .ok (.aload_n 0, 1) := by decide +kernel
theorem dX7_richestNow_20 : decode cX7_richestNow 20 = .ok (.getfield 7, 3) := by decide +kernel
theorem dX7_richestNow_23 : decode cX7_richestNow 23 = .ok (.bipush 6, 2) := by decide +kernel
theorem dX7_richestNow_25 : decode cX7_richestNow 25 = .ok (.iload_n 1, 1) := by decide +kernel
theorem dX7_richestNow_26 : decode cX7_richestNow 26 = .ok (.iadd, 1) := by decide +kernel
theorem dX7_richestNow_27 : decode cX7_richestNow 27 = .ok (.iaload, 1) := by decide +kernel
theorem dX7_richestNow_28 : decode cX7_richestNow 28 = .ok (.if_icmp .le 7, 3) := by decide +kernel
theorem dX7_richestNow_31 : decode cX7_richestNow 31 = .ok (.iload_n 2, 1) := by decide +kernel
theorem dX7_richestNow_32 : decode cX7_richestNow 32 = .ok (.goto 4, 3) := by decide +kernel
theorem dX7_richestNow_35 : decode cX7_richestNow 35 = .ok (.iload_n 1, 1) := by decide +kernel
theorem dX7_richestNow_36 : decode cX7_richestNow 36 = .ok (.istore_n 1, 1) := by decide +kernel
theorem dX7_richestNow_37 : decode cX7_richestNow 37 = .ok (.iinc 2 1, 3) := by decide +kernel
theorem dX7_richestNow_40 : decode cX7_richestNow 40 = .ok (.goto (-36), 3) := by decide +kernel
theorem dX7_richestNow_43 : decode cX7_richestNow 43 = .ok (.iload_n 1, 1) := by decide +kernel
theorem dX7_richestNow_44 : decode cX7_richestNow 44 = .ok (.ireturn, 1) := by decide +kernel
theorem dX7_richest_0 : decode cX7_richest 0 = .ok (.iload_n 1, 1) := by decide +kernel
theorem dX7_richest_1 : decode cX7_richest 1 = .ok (.i2l, 1) := by decide +kernel
theorem dX7_richest_2 : decode cX7_richest 2 = .ok (.lconst 0, 1) := by decide +kernel
theorem dX7_richest_3 : decode cX7_richest 3 = .ok (.ldc2_w 161, 3) := by decide +kernel
theorem dX7_richest_6 : decode cX7_richest 6 = .ok (.invokestatic 68, 3) := by decide +kernel
theorem dX7_richest_9 : decode cX7_richest 9 = .ok (.ifCond .eq 13, 3) := by decide +kernel
theorem dX7_richest_12 : decode cX7_richest 12 = .ok (.iload_n 2, 1) := by decide +kernel
theorem dX7_richest_13 : decode cX7_richest 13 = .ok (.i2l, 1) := by decide +kernel
theorem dX7_richest_14 : decode cX7_richest 14 = .ok (.lconst 0, 1) := by decide +kernel
theorem dX7_richest_15 : decode cX7_richest 15 = .ok (.lconst 1, 1) := by decide +kernel
theorem dX7_richest_16 : decode cX7_richest 16 = .ok (.invokestatic 68, 3) := by decide +kernel
theorem dX7_richest_19 : decode cX7_richest 19 = .ok (.ifCond .ne 6, 3) := by decide +kernel
theorem dX7_richest_22 : decode cX7_richest 22 = .ok (.ldc 87, 2) := by decide +kernel
theorem dX7_richest_24 : decode cX7_richest 24 = .ok (.ireturn, 1) := by decide +kernel
theorem dX7_richest_25 : decode cX7_richest 25 = .ok (.aload_n 0, 1) := by decide +kernel
theorem dX7_richest_26 : decode cX7_richest 26 = .ok (.invokevirtual 193, 3) := by decide +kernel
theorem dX7_richest_29 : decode cX7_richest 29 = .ok (.aload_n 0, 1) := by decide +kernel
theorem dX7_richest_30 : decode cX7_richest 30 = .ok (.iload_n 1, 1) := by decide +kernel
theorem dX7_richest_31 : decode cX7_richest 31 = .ok (.invokevirtual 201, 3) := by decide +kernel
theorem dX7_richest_34 : decode cX7_richest 34 = .ok (.aload_n 0, 1) := by decide +kernel
theorem dX7_richest_35 : decode cX7_richest 35 = .ok (.invokevirtual 205, 3) := by decide +kernel
theorem dX7_richest_38 : decode cX7_richest 38 = .ok (.istore_n 3, 1) := by decide +kernel
theorem dX7_richest_39 : decode cX7_richest 39 = .ok (.iload_n 2, 1) := by decide +kernel
theorem dX7_richest_40 : decode cX7_richest 40 = .ok (.ifCond .ne 7, 3) := by decide +kernel
theorem dX7_richest_43 : decode cX7_richest 43 = .ok (.iload_n 3, 1) := by decide +kernel
theorem dX7_richest_44 : decode cX7_richest 44 = .ok (.goto 12, 3) := by decide +kernel
theorem dX7_richest_47 : decode cX7_richest 47 = .ok (.aload_n 0, 1) := by decide +kernel
theorem dX7_richest_48 : decode cX7_richest 48 = .ok (.getfield 7, 3) := by decide +kernel
theorem dX7_richest_51 : decode cX7_richest 51 = .ok (.bipush 6, 2) := by decide +kernel
theorem dX7_richest_53 : decode cX7_richest 53 = .ok (.iload_n 3, 1) := by decide +kernel
theorem dX7_richest_54 : decode cX7_richest 54 = .ok (.iadd, 1) := by decide +kernel
theorem dX7_richest_55 : decode cX7_richest 55 = .ok (.iaload, 1) := by decide +kernel
theorem dX7_richest_56 : decode cX7_richest 56 = .ok (.istore 4, 2) := by decide +kernel
theorem dX7_richest_58 : decode cX7_richest 58 = .ok (.aload_n 0, 1) := by decide +kernel
theorem dX7_richest_59 : decode cX7_richest 59 = .ok (.invokevirtual 196, 3) := by decide +kernel
theorem dX7_richest_62 : decode cX7_richest 62 = .ok (.iload 4, 2) := by decide +kernel
theorem dX7_richest_64 : decode cX7_richest 64 = .ok (.ireturn, 1) := by decide +kernel
theorem dX7_allValues_0 : decode cX7_allValues 0 = .ok (.iconst 0, 1) := by decide +kernel
theorem dX7_allValues_1 : decode cX7_allValues 1 = .ok (.istore_n 1, 1) := by decide +kernel
theorem dX7_allValues_2 : decode cX7_allValues 2 = .ok (.iconst 0, 1) := by decide +kernel
theorem dX7_allValues_3 : decode cX7_allValues 3 = .ok (.istore_n 2, 1) := by decide +kernel
theorem dX7_allValues_4 : decode cX7_allValues 4 = .ok (.iload_n 2, 1) := by decide +kernel
theorem dX7_allValues_5 : decode cX7_allValues 5 = .ok (.aload_n 0, 1) := by decide +kernel
theorem dX7_allValues_6 : decode cX7_allValues 6 = .ok (.getfield 7, 3) := by decide +kernel
theorem dX7_allValues_9 : decode cX7_allValues 9 = .ok (.iconst 0, 1) := by decide +kernel
theorem dX7_allValues_10 : decode cX7_allValues 10 = .ok (.iaload, 1) := by decide +kernel
theorem dX7_allValues_11 : decode cX7_allValues 11 = .ok (.if_icmp .ge 17, 3) := by decide +kernel
theorem dX7_allValues_14 : decode cX7_allValues 14 = .ok (.iload_n 1, 1) := by decide +kernel
theorem dX7_allValues_15 : decode cX7_allValues 15 = .ok (.aload_n 0, 1) := by decide +kernel
theorem dX7_allValues_16 : decode cX7_allValues 16 = .ok (.iload_n 2, 1) := by decide +kernel
theorem dX7_allValues_17 : decode cX7_allValues 17 = .ok (.invokevirtual 110, 3) := by decide +kernel
theorem dX7_allValues_20 : decode cX7_allValues 20 = .ok (.iadd, 1) := by decide +kernel
theorem dX7_allValues_21 : decode cX7_allValues 21 = .ok (.istore_n 1, 1) := by decide +kernel
theorem dX7_allValues_22 : decode cX7_allValues 22 = .ok (.iinc 2 1, 3) := by decide +kernel
theorem dX7_allValues_25 : decode cX7_allValues 25 = .ok (.goto (-21), 3) := by decide +kernel
theorem dX7_allValues_28 : decode cX7_allValues 28 = .ok (.iload_n 1, 1) := by decide +kernel
theorem dX7_allValues_29 : decode cX7_allValues 29 = .ok (.ireturn, 1) := by decide +kernel
theorem dX7_allWear_0 : decode cX7_allWear 0 = .ok (.iconst 0, 1) := by decide +kernel
theorem dX7_allWear_1 : decode cX7_allWear 1 = .ok (.istore_n 1, 1) := by decide +kernel
theorem dX7_allWear_2 : decode cX7_allWear 2 = .ok (.iconst 0, 1) := by decide +kernel
theorem dX7_allWear_3 : decode cX7_allWear 3 = .ok (.istore_n 2, 1) := by decide +kernel
theorem dX7_allWear_4 : decode cX7_allWear 4 = .ok (.iload_n 2, 1) := by decide +kernel
theorem dX7_allWear_5 : decode cX7_allWear 5 = .ok (.aload_n 0, 1) := by decide +kernel
theorem dX7_allWear_6 : decode cX7_allWear 6 = .ok (.getfield 7, 3) := by decide +kernel
theorem dX7_allWear_9 : decode cX7_allWear 9 = .ok (.iconst 0, 1) := by decide +kernel
theorem dX7_allWear_10 : decode cX7_allWear 10 = .ok (.iaload, 1) := by decide +kernel
theorem dX7_allWear_11 : decode cX7_allWear 11 = .ok (.if_icmp .ge 18, 3) := by decide +kernel
theorem dX7_allWear_14 : decode cX7_allWear 14 = .ok (.iload_n 1, 1) := by decide +kernel
theorem dX7_allWear_15 : decode cX7_allWear 15 = .ok (.aload_n 0, 1) := by decide +kernel
theorem dX7_allWear_16 : decode cX7_allWear 16 = .ok (.iload_n 2, 1) := by decide +kernel
theorem dX7_allWear_17 : decode cX7_allWear 17 = .ok (.iconst 3, 1) := by decide +kernel
theorem dX7_allWear_18 : decode cX7_allWear 18 = .ok (.invokevirtual 97, 3) := by decide +kernel
theorem dX7_allWear_21 : decode cX7_allWear 21 = .ok (.iadd, 1) := by decide +kernel
theorem dX7_allWear_22 : decode cX7_allWear 22 = .ok (.istore_n 1, 1) := by decide +kernel
theorem dX7_allWear_23 : decode cX7_allWear 23 = .ok (.iinc 2 1, 3) := by decide +kernel
theorem dX7_allWear_26 : decode cX7_allWear 26 = .ok (.goto (-22), 3) := by decide +kernel
theorem dX7_allWear_29 : decode cX7_allWear 29 = .ok (.iload_n 1, 1) := by decide +kernel
theorem dX7_allWear_30 : decode cX7_allWear 30 = .ok (.ireturn, 1) := by decide +kernel
theorem dX7_worn_0 : decode cX7_worn 0 = .ok (.aload_n 0, 1) := by decide +kernel
theorem dX7_worn_1 : decode cX7_worn 1 = .ok (.invokevirtual 193, 3) := by decide +kernel
theorem dX7_worn_4 : decode cX7_worn 4 = .ok (.iconst (-1), 1) := by decide +kernel
theorem dX7_worn_5 : decode cX7_worn 5 = .ok (.istore_n 1, 1) := by decide +kernel
theorem dX7_worn_6 : decode cX7_worn 6 = .ok (.iconst 0, 1) := by decide +kernel
theorem dX7_worn_7 : decode cX7_worn 7 = .ok (.istore_n 2, 1) := by decide +kernel
theorem dX7_worn_8 : decode cX7_worn 8 = .ok (.iload_n 2, 1) := by decide +kernel
theorem dX7_worn_9 : decode cX7_worn 9 = .ok (.sipush 200, 3) := by decide +kernel
theorem dX7_worn_12 : decode cX7_worn 12 = .ok (.if_icmp .gt 30, 3) := by decide +kernel
theorem dX7_worn_15 : decode cX7_worn 15 = .ok (.iload_n 1, 1) := by decide +kernel
theorem dX7_worn_16 : decode cX7_worn 16 = .ok (.ifCond .ge 26, 3) := by decide +kernel
theorem dX7_worn_19 : decode cX7_worn 19 = .ok (.aload_n 0, 1) := by decide +kernel
theorem dX7_worn_20 : decode cX7_worn 20 = .ok (.invokevirtual 208, 3) := by decide +kernel
theorem dX7_worn_23 : decode cX7_worn 23 = .ok (.ifCond .ne 7, 3) := by decide +kernel
theorem dX7_worn_26 : decode cX7_worn 26 = .ok (.iload_n 2, 1) := by decide +kernel
theorem dX7_worn_27 : decode cX7_worn 27 = .ok (.goto 4, 3) := by decide +kernel
theorem dX7_worn_30 : decode cX7_worn 30 = .ok (.iconst (-1), 1) := by decide +kernel
theorem dX7_worn_31 : decode cX7_worn 31 = .ok (.istore_n 1, 1) := by decide +kernel
theorem dX7_worn_32 : decode cX7_worn 32 = .ok (.aload_n 0, 1) := by decide +kernel
theorem dX7_worn_33 : decode cX7_worn 33 = .ok (.invokevirtual 163, 3) := by decide +kernel
theorem dX7_worn_36 : decode cX7_worn 36 = .ok (.iinc 2 1, 3) := by decide +kernel
theorem dX7_worn_39 : decode cX7_worn 39 = .ok (.goto (-31), 3) := by decide +kernel
theorem dX7_worn_42 : decode cX7_worn 42 = .ok (.aload_n 0, 1) := by decide +kernel
theorem dX7_worn_43 : decode cX7_worn 43 = .ok (.invokevirtual 196, 3) := by decide +kernel
theorem dX7_worn_46 : decode cX7_worn 46 = .ok (.iload_n 1, 1) := by decide +kernel
theorem dX7_worn_47 : decode cX7_worn 47 = .ok (.invokestatic 175, 3) := by decide +kernel
theorem dX7_worn_50 : decode cX7_worn 50 = .ok (.ireturn, 1) := by decide +kernel
theorem dX7_dye_0 : decode cX7_dye 0 = .ok (.aload_n 0, 1) := by decide +kernel
theorem dX7_dye_1 : decode cX7_dye 1 = .ok (.iload_n 1, 1) := by decide +kernel
theorem dX7_dye_2 : decode cX7_dye 2 = .ok (.invokevirtual 117, 3) := by decide +kernel
theorem dX7_dye_5 : decode cX7_dye 5 = .ok (.ifCond .eq 25, 3) := by decide +kernel
theorem dX7_dye_8 : decode cX7_dye 8 = .ok (.iload_n 2, 1) := by decide +kernel
theorem dX7_dye_9 : decode cX7_dye 9 = .ok (.i2l, 1) := by decide +kernel
theorem dX7_dye_10 : decode cX7_dye 10 = .ok (.lconst 1, 1) := by decide +kernel
theorem dX7_dye_11 : decode cX7_dye 11 = .ok (.ldc2_w 211, 3) := by decide +kernel
theorem dX7_dye_14 : decode cX7_dye 14 = .ok (.invokestatic 68, 3) := by decide +kernel
theorem dX7_dye_17 : decode cX7_dye 17 = .ok (.ifCond .eq 13, 3) := by decide +kernel
theorem dX7_dye_20 : decode cX7_dye 20 = .ok (.iload_n 3, 1) := by decide +kernel
theorem dX7_dye_21 : decode cX7_dye 21 = .ok (.i2l, 1) := by decide +kernel
theorem dX7_dye_22 : decode cX7_dye 22 = .ok (.lconst 0, 1) := by decide +kernel
theorem dX7_dye_23 : decode cX7_dye 23 = .ok (.lconst 1, 1) := by decide +kernel
theorem dX7_dye_24 : decode cX7_dye 24 = .ok (.invokestatic 68, 3) := by decide +kernel
theorem dX7_dye_27 : decode cX7_dye 27 = .ok (.ifCond .ne 6, 3) := by decide +kernel
theorem dX7_dye_30 : decode cX7_dye 30 = .ok (.ldc 87, 2) := by decide +kernel
theorem dX7_dye_32 : decode cX7_dye 32 = .ok (.ireturn, 1) := by decide +kernel
theorem dX7_dye_33 : decode cX7_dye 33 = .ok (.aload_n 0, 1) := by decide +kernel
theorem dX7_dye_34 : decode cX7_dye 34 = .ok (.invokevirtual 193, 3) := by decide +kernel
theorem dX7_dye_37 : decode cX7_dye 37 = .ok (.aload_n 0, 1) := by decide +kernel
theorem dX7_dye_38 : decode cX7_dye 38 = .ok (.iload_n 1, 1) := by decide +kernel
theorem dX7_dye_39 : decode cX7_dye 39 = .ok (.iconst 4, 1) := by decide +kernel
theorem dX7_dye_40 : decode cX7_dye 40 = .ok (.invokevirtual 97, 3) := by decide +kernel
theorem dX7_dye_43 : decode cX7_dye 43 = .ok (.istore 4, 2) := by decide +kernel
theorem dX7_dye_45 : decode cX7_dye 45 = .ok (.iconst 0, 1) := by decide +kernel
theorem dX7_dye_46 : decode cX7_dye 46 = .ok (.istore 5, 2) := by decide +kernel
theorem dX7_dye_48 : decode cX7_dye 48 = .ok (.iconst (-1), 1) := by decide +kernel
theorem dX7_dye_49 : decode cX7_dye 49 = .ok (.istore 6, 2) := by decide +kernel
theorem dX7_dye_51 : decode cX7_dye 51 = .ok (.iconst 0, 1) := by decide +kernel
theorem dX7_dye_52 : decode cX7_dye 52 = .ok (.istore 7, 2) := by decide +kernel
theorem dX7_dye_54 : decode cX7_dye 54 = .ok (.iload 7, 2) := by decide +kernel
theorem dX7_dye_56 : decode cX7_dye 56 = .ok (.bipush 10, 2) := by decide +kernel
theorem dX7_dye_58 : decode cX7_dye 58 = .ok (.if_icmp .ge 53, 3) := by decide +kernel
theorem dX7_dye_61 : decode cX7_dye 61 = .ok (.aload_n 0, 1) := by decide +kernel
theorem dX7_dye_62 : decode cX7_dye 62 = .ok (.iload_n 1, 1) := by decide +kernel
theorem dX7_dye_63 : decode cX7_dye 63 = .ok (.iconst 2, 1) := by decide +kernel
theorem dX7_dye_64 : decode cX7_dye 64 = .ok (.iload 7, 2) := by decide +kernel
theorem dX7_dye_66 : decode cX7_dye 66 = .ok (.invokevirtual 73, 3) := by decide +kernel
theorem dX7_dye_69 : decode cX7_dye 69 = .ok (.aload_n 0, 1) := by decide +kernel
theorem dX7_dye_70 : decode cX7_dye 70 = .ok (.iload_n 2, 1) := by decide +kernel
theorem dX7_dye_71 : decode cX7_dye 71 = .ok (.invokevirtual 201, 3) := by decide +kernel
theorem dX7_dye_74 : decode cX7_dye 74 = .ok (.aload_n 0, 1) := by decide +kernel
theorem dX7_dye_75 : decode cX7_dye 75 = .ok (.getfield 7, 3) := by decide +kernel
theorem dX7_dye_78 : decode cX7_dye 78 = .ok (.bipush 6, 2) := by decide +kernel
theorem dX7_dye_80 : decode cX7_dye 80 = .ok (.iload 4, 2) := by decide +kernel
theorem dX7_dye_82 : decode cX7_dye 82 = .ok (.iadd, 1) := by decide +kernel
theorem dX7_dye_83 : decode cX7_dye 83 = .ok (.iaload, 1) := by decide +kernel
theorem dX7_dye_84 : decode cX7_dye 84 = .ok (.istore 8, 2) := by decide +kernel
theorem dX7_dye_86 : decode cX7_dye 86 = .ok (.aload_n 0, 1) := by decide +kernel
theorem dX7_dye_87 : decode cX7_dye 87 = .ok (.invokevirtual 196, 3) := by decide +kernel
theorem dX7_dye_90 : decode cX7_dye 90 = .ok (.iload 8, 2) := by decide +kernel
theorem dX7_dye_92 : decode cX7_dye 92 = .ok (.iload 6, 2) := by decide +kernel
theorem dX7_dye_94 : decode cX7_dye 94 = .ok (.if_icmp .le 11, 3) := by decide +kernel
theorem dX7_dye_97 : decode cX7_dye 97 = .ok (.iload 7, 2) := by decide +kernel
theorem dX7_dye_99 : decode cX7_dye 99 = .ok (.istore 5, 2) := by decide +kernel
theorem dX7_dye_101 : decode cX7_dye 101 = .ok (.iload 8, 2) := by decide +kernel
theorem dX7_dye_103 : decode cX7_dye 103 = .ok (.istore 6, 2) := by decide +kernel
theorem dX7_dye_105 : decode cX7_dye 105 = .ok (.iinc 7 1, 3) := by decide +kernel
theorem dX7_dye_108 : decode cX7_dye 108 = .ok (.goto (-54), 3) := by decide +kernel
theorem dX7_dye_111 : decode cX7_dye 111 = .ok (.iload_n 3, 1) := by decide +kernel
theorem dX7_dye_112 : decode cX7_dye 112 = .ok (.ifCond .ne 8, 3) := by decide +kernel
theorem dX7_dye_115 : decode cX7_dye 115 = .ok (.iload 5, 2) := by decide +kernel
theorem dX7_dye_117 : decode cX7_dye 117 = .ok (.goto 5, 3) := by decide +kernel
theorem dX7_dye_120 : decode cX7_dye 120 = .ok (.iload 6, 2) := by decide +kernel
theorem dX7_dye_122 : decode cX7_dye 122 = .ok (.ireturn, 1) := by decide +kernel
theorem dX7_mends_0 : decode cX7_mends 0 = .ok (.iload_n 1, 1) := by decide +kernel
theorem dX7_mends_1 : decode cX7_mends 1 = .ok (.i2l, 1) := by decide +kernel
theorem dX7_mends_2 : decode cX7_mends 2 = .ok (.lconst 1, 1) := by decide +kernel
theorem dX7_mends_3 : decode cX7_mends 3 = .ok (.ldc2_w 211, 3) := by decide +kernel
theorem dX7_mends_6 : decode cX7_mends 6 = .ok (.invokestatic 68, 3) := by decide +kernel
theorem dX7_mends_9 : decode cX7_mends 9 = .ok (.ifCond .eq 13, 3) := by decide +kernel
theorem dX7_mends_12 : decode cX7_mends 12 = .ok (.iload_n 2, 1) := by decide +kernel
theorem dX7_mends_13 : decode cX7_mends 13 = .ok (.i2l, 1) := by decide +kernel
theorem dX7_mends_14 : decode cX7_mends 14 = .ok (.lconst 0, 1) := by decide +kernel
theorem dX7_mends_15 : decode cX7_mends 15 = .ok (.lconst 1, 1) := by decide +kernel
theorem dX7_mends_16 : decode cX7_mends 16 = .ok (.invokestatic 68, 3) := by decide +kernel
theorem dX7_mends_19 : decode cX7_mends 19 = .ok (.ifCond .ne 6, 3) := by decide +kernel
theorem dX7_mends_22 : decode cX7_mends 22 = .ok (.ldc 87, 2) := by decide +kernel
theorem dX7_mends_24 : decode cX7_mends 24 = .ok (.ireturn, 1) := by decide +kernel
theorem dX7_mends_25 : decode cX7_mends 25 = .ok (.aload_n 0, 1) := by decide +kernel
theorem dX7_mends_26 : decode cX7_mends 26 = .ok (.invokevirtual 193, 3) := by decide +kernel
theorem dX7_mends_29 : decode cX7_mends 29 = .ok (.iconst (-1), 1) := by decide +kernel
theorem dX7_mends_30 : decode cX7_mends 30 = .ok (.istore_n 3, 1) := by decide +kernel
theorem dX7_mends_31 : decode cX7_mends 31 = .ok (.iconst 0, 1) := by decide +kernel
theorem dX7_mends_32 : decode cX7_mends 32 = .ok (.istore 4, 2) := by decide +kernel
theorem dX7_mends_34 : decode cX7_mends 34 = .ok (.iconst 0, 1) := by decide +kernel
theorem dX7_mends_35 : decode cX7_mends 35 = .ok (.istore 5, 2) := by decide +kernel
theorem dX7_mends_37 : decode cX7_mends 37 = .ok (.iload 5, 2) := by decide +kernel
theorem dX7_mends_39 : decode cX7_mends 39 = .ok (.aload_n 0, 1) := by decide +kernel
theorem dX7_mends_40 : decode cX7_mends 40 = .ok (.getfield 7, 3) := by decide +kernel
theorem dX7_mends_43 : decode cX7_mends 43 = .ok (.iconst 0, 1) := by decide +kernel
theorem dX7_mends_44 : decode cX7_mends 44 = .ok (.iaload, 1) := by decide +kernel
theorem dX7_mends_45 : decode cX7_mends 45 = .ok (.if_icmp .ge 52, 3) := by decide +kernel
theorem dX7_mends_48 : decode cX7_mends 48 = .ok (.aload_n 0, 1) := by decide +kernel
theorem dX7_mends_49 : decode cX7_mends 49 = .ok (.iload 5, 2) := by decide +kernel
theorem dX7_mends_51 : decode cX7_mends 51 = .ok (.iconst 0, 1) := by decide +kernel
theorem dX7_mends_52 : decode cX7_mends 52 = .ok (.iconst 1, 1) := by decide +kernel
theorem dX7_mends_53 : decode cX7_mends 53 = .ok (.invokevirtual 73, 3) := by decide +kernel
theorem dX7_mends_56 : decode cX7_mends 56 = .ok (.aload_n 0, 1) := by decide +kernel
theorem dX7_mends_57 : decode cX7_mends 57 = .ok (.iload_n 1, 1) := by decide +kernel
theorem dX7_mends_58 : decode cX7_mends 58 = .ok (.invokevirtual 201, 3) := by decide +kernel
theorem dX7_mends_61 : decode cX7_mends 61 = .ok (.aload_n 0, 1) := by decide +kernel
theorem dX7_mends_62 : decode cX7_mends 62 = .ok (.getfield 7, 3) := by decide +kernel
theorem dX7_mends_65 : decode cX7_mends 65 = .ok (.iconst 3, 1) := by decide +kernel
theorem dX7_mends_66 : decode cX7_mends 66 = .ok (.iaload, 1) := by decide +kernel
theorem dX7_mends_67 : decode cX7_mends 67 = .ok (.istore 6, 2) := by decide +kernel
theorem dX7_mends_69 : decode cX7_mends 69 = .ok (.aload_n 0, 1) := by decide +kernel
theorem dX7_mends_70 : decode cX7_mends 70 = .ok (.invokevirtual 196, 3) := by decide +kernel
theorem dX7_mends_73 : decode cX7_mends 73 = .ok (.iload_n 3, 1) := by decide +kernel
theorem dX7_mends_74 : decode cX7_mends 74 = .ok (.ifCond .lt 10, 3) := by decide +kernel
theorem dX7_mends_77 : decode cX7_mends 77 = .ok (.iload 6, 2) := by decide +kernel
theorem dX7_mends_79 : decode cX7_mends 79 = .ok (.iload 4, 2) := by decide +kernel
theorem dX7_mends_81 : decode cX7_mends 81 = .ok (.if_icmp .le 10, 3) := by decide +kernel
theorem dX7_mends_84 : decode cX7_mends 84 = .ok (.iload 5, 2) := by decide +kernel
theorem dX7_mends_86 : decode cX7_mends 86 = .ok (.istore_n 3, 1) := by decide +kernel
theorem dX7_mends_87 : decode cX7_mends 87 = .ok (.iload 6, 2) := by decide +kernel
theorem dX7_mends_89 : decode cX7_mends 89 = .ok (.istore 4, 2) := by decide +kernel
theorem dX7_mends_91 : decode cX7_mends 91 = .ok (.iinc 5 1, 3) := by decide +kernel
theorem dX7_mends_94 : decode cX7_mends 94 = .ok (.goto (-57), 3) := by decide +kernel
theorem dX7_mends_97 : decode cX7_mends 97 = .ok (.iload_n 3, 1) := by decide +kernel
theorem dX7_mends_98 : decode cX7_mends 98 = .ok (.ifCond .ge 8, 3) := by decide +kernel
theorem dX7_mends_101 : decode cX7_mends 101 = .ok (.ldc 67, 2) := by decide +kernel
theorem dX7_mends_103 : decode cX7_mends 103 = .ok (.goto 13, 3) := by decide +kernel
theorem dX7_mends_106 : decode cX7_mends 106 = .ok (.iload_n 2, 1) := by decide +kernel
theorem dX7_mends_107 : decode cX7_mends 107 = .ok (.ifCond .ne 7, 3) := by decide +kernel
theorem dX7_mends_110 : decode cX7_mends 110 = .ok (.iload_n 3, 1) := by decide +kernel
theorem dX7_mends_111 : decode cX7_mends 111 = .ok (.goto 5, 3) := by decide +kernel
theorem dX7_mends_114 : decode cX7_mends 114 = .ok (.iload 4, 2) := by decide +kernel
theorem dX7_mends_116 : decode cX7_mends 116 = .ok (.ireturn, 1) := by decide +kernel
theorem dX7_fine_0 : decode cX7_fine 0 = .ok (.iload_n 1, 1) := by decide +kernel
theorem dX7_fine_1 : decode cX7_fine 1 = .ok (.invokestatic 83, 3) := by decide +kernel
theorem dX7_fine_4 : decode cX7_fine 4 = .ok (.ifCond .ne 6, 3) := by decide +kernel
theorem dX7_fine_7 : decode cX7_fine 7 = .ok (.ldc 87, 2) := by decide +kernel
theorem dX7_fine_9 : decode cX7_fine 9 = .ok (.ireturn, 1) := by decide +kernel
theorem dX7_fine_10 : decode cX7_fine 10 = .ok (.aload_n 0, 1) := by decide +kernel
theorem dX7_fine_11 : decode cX7_fine 11 = .ok (.iconst 2, 1) := by decide +kernel
theorem dX7_fine_12 : decode cX7_fine 12 = .ok (.invokevirtual 93, 3) := by decide +kernel
theorem dX7_fine_15 : decode cX7_fine 15 = .ok (.istore_n 2, 1) := by decide +kernel
theorem dX7_fine_16 : decode cX7_fine 16 = .ok (.iload_n 2, 1) := by decide +kernel
theorem dX7_fine_17 : decode cX7_fine 17 = .ok (.ifCond .ge 13, 3) := by decide +kernel
theorem dX7_fine_20 : decode cX7_fine 20 = .ok (.aload_n 0, 1) := by decide +kernel
theorem dX7_fine_21 : decode cX7_fine 21 = .ok (.getfield 7, 3) := by decide +kernel
theorem dX7_fine_24 : decode cX7_fine 24 = .ok (.bipush 6, 2) := by decide +kernel
theorem dX7_fine_26 : decode cX7_fine 26 = .ok (.iload_n 1, 1) := by decide +kernel
theorem dX7_fine_27 : decode cX7_fine 27 = .ok (.iadd, 1) := by decide +kernel
theorem dX7_fine_28 : decode cX7_fine 28 = .ok (.iaload, 1) := by decide +kernel
theorem dX7_fine_29 : decode cX7_fine 29 = .ok (.ireturn, 1) := by decide +kernel
theorem dX7_fine_30 : decode cX7_fine 30 = .ok (.aload_n 0, 1) := by decide +kernel
theorem dX7_fine_31 : decode cX7_fine 31 = .ok (.getfield 52, 3) := by decide +kernel
theorem dX7_fine_34 : decode cX7_fine 34 = .ok (.bipush 99, 2) := by decide +kernel
theorem dX7_fine_36 : decode cX7_fine 36 = .ok (.aload_n 0, 1) := by decide +kernel
theorem dX7_fine_37 : decode cX7_fine 37 = .ok (.getfield 7, 3) := by decide +kernel
theorem dX7_fine_40 : decode cX7_fine 40 = .ok (.bipush 6, 2) := by decide +kernel
theorem dX7_fine_42 : decode cX7_fine 42 = .ok (.iload_n 1, 1) := by decide +kernel
theorem dX7_fine_43 : decode cX7_fine 43 = .ok (.iadd, 1) := by decide +kernel
theorem dX7_fine_44 : decode cX7_fine 44 = .ok (.iaload, 1) := by decide +kernel
theorem dX7_fine_45 : decode cX7_fine 45 = .ok (.iastore, 1) := by decide +kernel
theorem dX7_fine_46 : decode cX7_fine 46 = .ok (.aload_n 0, 1) := by decide +kernel
theorem dX7_fine_47 : decode cX7_fine 47 = .ok (.getfield 52, 3) := by decide +kernel
theorem dX7_fine_50 : decode cX7_fine 50 = .ok (.bipush 110, 2) := by decide +kernel
theorem dX7_fine_52 : decode cX7_fine 52 = .ok (.aload_n 0, 1) := by decide +kernel
theorem dX7_fine_53 : decode cX7_fine 53 = .ok (.iload_n 1, 1) := by decide +kernel
theorem dX7_fine_54 : decode cX7_fine 54 = .ok (.invokevirtual 137, 3) := by decide +kernel
theorem dX7_fine_57 : decode cX7_fine 57 = .ok (.invokestatic 184, 3) := by decide +kernel
theorem dX7_fine_60 : decode cX7_fine 60 = .ok (.iastore, 1) := by decide +kernel
theorem dX7_fine_61 : decode cX7_fine 61 = .ok (.aload_n 0, 1) := by decide +kernel
theorem dX7_fine_62 : decode cX7_fine 62 = .ok (.iload_n 2, 1) := by decide +kernel
theorem dX7_fine_63 : decode cX7_fine 63 = .ok (.invokevirtual 104, 3) := by decide +kernel
theorem dX7_fine_66 : decode cX7_fine 66 = .ok (.ireturn, 1) := by decide +kernel
theorem dX7_feed_0 : decode cX7_feed 0 = .ok (.aload_n 0, 1) := by decide +kernel
theorem dX7_feed_1 : decode cX7_feed 1 = .ok (.getfield 213, 3) := by decide +kernel
theorem dX7_feed_4 : decode cX7_feed 4 = .ok (.bipush 12, 2) := by decide +kernel
theorem dX7_feed_6 : decode cX7_feed 6 = .ok (.iadd, 1) := by decide +kernel
theorem dX7_feed_7 : decode cX7_feed 7 = .ok (.bipush 96, 2) := by decide +kernel
theorem dX7_feed_9 : decode cX7_feed 9 = .ok (.if_icmp .le 6, 3) := by decide +kernel
theorem dX7_feed_12 : decode cX7_feed 12 = .ok (.ldc 88, 2) := by decide +kernel
theorem dX7_feed_14 : decode cX7_feed 14 = .ok (.ireturn, 1) := by decide +kernel
theorem dX7_feed_15 : decode cX7_feed 15 = .ok (.iconst 0, 1) := by decide +kernel
theorem dX7_feed_16 : decode cX7_feed 16 = .ok (.istore 4, 2) := by decide +kernel
theorem dX7_feed_18 : decode cX7_feed 18 = .ok (.iload 4, 2) := by decide +kernel
theorem dX7_feed_20 : decode cX7_feed 20 = .ok (.bipush 12, 2) := by decide +kernel
theorem dX7_feed_22 : decode cX7_feed 22 = .ok (.if_icmp .ge 69, 3) := by decide +kernel
theorem dX7_feed_25 : decode cX7_feed 25 = .ok (.iload 4, 2) := by decide +kernel
theorem dX7_feed_27 : decode cX7_feed 27 = .ok (.iconst 4, 1) := by decide +kernel
theorem dX7_feed_28 : decode cX7_feed 28 = .ok (.if_icmp .ge 7, 3) := by decide +kernel
theorem dX7_feed_31 : decode cX7_feed 31 = .ok (.iload_n 1, 1) := by decide +kernel
theorem dX7_feed_32 : decode cX7_feed 32 = .ok (.goto 15, 3) := by decide +kernel
theorem dX7_feed_35 : decode cX7_feed 35 = .ok (.iload 4, 2) := by decide +kernel
theorem dX7_feed_37 : decode cX7_feed 37 = .ok (.bipush 8, 2) := by decide +kernel
theorem dX7_feed_39 : decode cX7_feed 39 = .ok (.if_icmp .ge 7, 3) := by decide +kernel
theorem dX7_feed_42 : decode cX7_feed 42 = .ok (.iload_n 2, 1) := by decide +kernel
theorem dX7_feed_43 : decode cX7_feed 43 = .ok (.goto 4, 3) := by decide +kernel
theorem dX7_feed_46 : decode cX7_feed 46 = .ok (.iload_n 3, 1) := by decide +kernel
theorem dX7_feed_47 : decode cX7_feed 47 = .ok (.istore 5, 2) := by decide +kernel
theorem dX7_feed_49 : decode cX7_feed 49 = .ok (.aload_n 0, 1) := by decide +kernel
theorem dX7_feed_50 : decode cX7_feed 50 = .ok (.getfield 49, 3) := by decide +kernel
theorem dX7_feed_53 : decode cX7_feed 53 = .ok (.aload_n 0, 1) := by decide +kernel
theorem dX7_feed_54 : decode cX7_feed 54 = .ok (.getfield 213, 3) := by decide +kernel
theorem dX7_feed_57 : decode cX7_feed 57 = .ok (.iload 5, 2) := by decide +kernel
theorem dX7_feed_59 : decode cX7_feed 59 = .ok (.bipush 24, 2) := by decide +kernel
theorem dX7_feed_61 : decode cX7_feed 61 = .ok (.bipush 8, 2) := by decide +kernel
theorem dX7_feed_63 : decode cX7_feed 63 = .ok (.iload 4, 2) := by decide +kernel
theorem dX7_feed_65 : decode cX7_feed 65 = .ok (.iconst 4, 1) := by decide +kernel
theorem dX7_feed_66 : decode cX7_feed 66 = .ok (.irem, 1) := by decide +kernel
theorem dX7_feed_67 : decode cX7_feed 67 = .ok (.imul, 1) := by decide +kernel
theorem dX7_feed_68 : decode cX7_feed 68 = .ok (.isub, 1) := by decide +kernel
theorem dX7_feed_69 : decode cX7_feed 69 = .ok (.ishr, 1) := by decide +kernel
theorem dX7_feed_70 : decode cX7_feed 70 = .ok (.sipush 255, 3) := by decide +kernel
theorem dX7_feed_73 : decode cX7_feed 73 = .ok (.iand, 1) := by decide +kernel
theorem dX7_feed_74 : decode cX7_feed 74 = .ok (.iastore, 1) := by decide +kernel
theorem dX7_feed_75 : decode cX7_feed 75 = .ok (.aload_n 0, 1) := by decide +kernel
theorem dX7_feed_76 : decode cX7_feed 76 = .ok (.dup, 1) := by decide +kernel
theorem dX7_feed_77 : decode cX7_feed 77 = .ok (.getfield 213, 3) := by decide +kernel
theorem dX7_feed_80 : decode cX7_feed 80 = .ok (.iconst 1, 1) := by decide +kernel
theorem dX7_feed_81 : decode cX7_feed 81 = .ok (.iadd, 1) := by decide +kernel
theorem dX7_feed_82 : decode cX7_feed 82 = .ok (.putfield 213, 3) := by decide +kernel
theorem dX7_feed_85 : decode cX7_feed 85 = .ok (.iinc 4 1, 3) := by decide +kernel
theorem dX7_feed_88 : decode cX7_feed 88 = .ok (.goto (-70), 3) := by decide +kernel
theorem dX7_feed_91 : decode cX7_feed 91 = .ok (.aload_n 0, 1) := by decide +kernel
theorem dX7_feed_92 : decode cX7_feed 92 = .ok (.getfield 213, 3) := by decide +kernel
theorem dX7_feed_95 : decode cX7_feed 95 = .ok (.ireturn, 1) := by decide +kernel
theorem dX7_trim_0 : decode cX7_trim 0 = .ok (.iload_n 1, 1) := by decide +kernel
theorem dX7_trim_1 : decode cX7_trim 1 = .ok (.i2l, 1) := by decide +kernel
theorem dX7_trim_2 : decode cX7_trim 2 = .ok (.lconst 0, 1) := by decide +kernel
theorem dX7_trim_3 : decode cX7_trim 3 = .ok (.aload_n 0, 1) := by decide +kernel
theorem dX7_trim_4 : decode cX7_trim 4 = .ok (.getfield 213, 3) := by decide +kernel
theorem dX7_trim_7 : decode cX7_trim 7 = .ok (.i2l, 1) := by decide +kernel
theorem dX7_trim_8 : decode cX7_trim 8 = .ok (.invokestatic 68, 3) := by decide +kernel
theorem dX7_trim_11 : decode cX7_trim 11 = .ok (.ifCond .ne 6, 3) := by decide +kernel
theorem dX7_trim_14 : decode cX7_trim 14 = .ok (.ldc 87, 2) := by decide +kernel
theorem dX7_trim_16 : decode cX7_trim 16 = .ok (.ireturn, 1) := by decide +kernel
theorem dX7_trim_17 : decode cX7_trim 17 = .ok (.aload_n 0, 1) := by decide +kernel
theorem dX7_trim_18 : decode cX7_trim 18 = .ok (.iload_n 1, 1) := by decide +kernel
theorem dX7_trim_19 : decode cX7_trim 19 = .ok (.putfield 213, 3) := by decide +kernel
theorem dX7_trim_22 : decode cX7_trim 22 = .ok (.iload_n 1, 1) := by decide +kernel
theorem dX7_trim_23 : decode cX7_trim 23 = .ok (.ireturn, 1) := by decide +kernel
theorem dX7_isLetter_0 : decode cX7_isLetter 0 = .ok (.iload_n 1, 1) := by decide +kernel
theorem dX7_isLetter_1 : decode cX7_isLetter 1 = .ok (.aload_n 0, 1) := by decide +kernel
theorem dX7_isLetter_2 : decode cX7_isLetter 2 = .ok (.getfield 213, 3) := by decide +kernel
theorem dX7_isLetter_5 : decode cX7_isLetter 5 = .ok (.if_icmp .ge 26, 3) := by decide +kernel
theorem dX7_isLetter_8 : decode cX7_isLetter 8 = .ok (.aload_n 0, 1) := by decide +kernel
theorem dX7_isLetter_9 : decode cX7_isLetter 9 = .ok (.getfield 49, 3) := by decide +kernel
theorem dX7_isLetter_12 : decode cX7_isLetter 12 = .ok (.iload_n 1, 1) := by decide +kernel
theorem dX7_isLetter_13 : decode cX7_isLetter 13 = .ok (.iaload, 1) := by decide +kernel
theorem dX7_isLetter_14 : decode cX7_isLetter 14 = .ok (.i2l, 1) := by decide +kernel
theorem dX7_isLetter_15 : decode cX7_isLetter 15 = .ok (.ldc2_w 217, 3) := by decide +kernel
theorem dX7_isLetter_18 : decode cX7_isLetter 18 = .ok (.ldc2_w 219, 3) := by decide +kernel
theorem dX7_isLetter_21 : decode cX7_isLetter 21 = .ok (.invokestatic 68, 3) := by decide +kernel
theorem dX7_isLetter_24 : decode cX7_isLetter 24 = .ok (.ifCond .eq 7, 3) := by decide +kernel
theorem dX7_isLetter_27 : decode cX7_isLetter 27 = .ok (.iconst 1, 1) := by decide +kernel
theorem dX7_isLetter_28 : decode cX7_isLetter 28 = .ok (.goto 4, 3) := by decide +kernel
theorem dX7_isLetter_31 : decode cX7_isLetter 31 = .ok (.iconst 0, 1) := by decide +kernel
theorem dX7_isLetter_32 : decode cX7_isLetter 32 = .ok (.ireturn, 1) := by decide +kernel
theorem dX7_isDigit_0 : decode cX7_isDigit 0 = .ok (.iload_n 1, 1) := by decide +kernel
theorem dX7_isDigit_1 : decode cX7_isDigit 1 = .ok (.aload_n 0, 1) := by decide +kernel
theorem dX7_isDigit_2 : decode cX7_isDigit 2 = .ok (.getfield 213, 3) := by decide +kernel
theorem dX7_isDigit_5 : decode cX7_isDigit 5 = .ok (.if_icmp .ge 26, 3) := by decide +kernel
theorem dX7_isDigit_8 : decode cX7_isDigit 8 = .ok (.aload_n 0, 1) := by decide +kernel
theorem dX7_isDigit_9 : decode cX7_isDigit 9 = .ok (.getfield 49, 3) := by decide +kernel
theorem dX7_isDigit_12 : decode cX7_isDigit 12 = .ok (.iload_n 1, 1) := by decide +kernel
theorem dX7_isDigit_13 : decode cX7_isDigit 13 = .ok (.iaload, 1) := by decide +kernel
theorem dX7_isDigit_14 : decode cX7_isDigit 14 = .ok (.i2l, 1) := by decide +kernel
theorem dX7_isDigit_15 : decode cX7_isDigit 15 = .ok (.ldc2_w 221, 3) := by decide +kernel
theorem dX7_isDigit_18 : decode cX7_isDigit 18 = .ok (.ldc2_w 223, 3) := by decide +kernel
theorem dX7_isDigit_21 : decode cX7_isDigit 21 = .ok (.invokestatic 68, 3) := by decide +kernel
theorem dX7_isDigit_24 : decode cX7_isDigit 24 = .ok (.ifCond .eq 7, 3) := by decide +kernel
theorem dX7_isDigit_27 : decode cX7_isDigit 27 = .ok (.iconst 1, 1) := by decide +kernel
theorem dX7_isDigit_28 : decode cX7_isDigit 28 = .ok (.goto 4, 3) := by decide +kernel
theorem dX7_isDigit_31 : decode cX7_isDigit 31 = .ok (.iconst 0, 1) := by decide +kernel
theorem dX7_isDigit_32 : decode cX7_isDigit 32 = .ok (.ireturn, 1) := by decide +kernel
theorem dX7_nextToken_0 : decode cX7_nextToken 0 = .ok (.aload_n 0, 1) := by decide +kernel
theorem dX7_nextToken_1 : decode cX7_nextToken 1 = .ok (.getfield 225, 3) := by decide +kernel
theorem dX7_nextToken_4 : decode cX7_nextToken 4 = .ok (.ifCond .le 23, 3) := by decide +kernel
theorem dX7_nextToken_7 : decode cX7_nextToken 7 = .ok (.aload_n 0, 1) := by decide +kernel
theorem dX7_nextToken_8 : decode cX7_nextToken 8 = .ok (.getfield 228, 3) := by decide +kernel
theorem dX7_nextToken_11 : decode cX7_nextToken 11 = .ok (.iconst 1, 1) := by decide +kernel
theorem dX7_nextToken_12 : decode cX7_nextToken 12 = .ok (.if_icmp .eq 11, 3) := by decide +kernel
theorem dX7_nextToken_15 : decode cX7_nextToken 15 = .ok (.aload_n 0, 1) := by decide +kernel
theorem dX7_nextToken_16 : decode cX7_nextToken 16 = .ok (.getfield 228, 3) := by decide +kernel
theorem dX7_nextToken_19 : decode cX7_nextToken 19 = .ok (.iconst 2, 1) := by decide +kernel
theorem dX7_nextToken_20 : decode cX7_nextToken 20 = .ok (.if_icmp .ne 7, 3) := by decide +kernel
theorem dX7_nextToken_23 : decode cX7_nextToken 23 = .ok (.iconst 1, 1) := by decide +kernel
theorem dX7_nextToken_24 : decode cX7_nextToken 24 = .ok (.goto 4, 3) := by decide +kernel
theorem dX7_nextToken_27 : decode cX7_nextToken 27 = .ok (.iconst 0, 1) := by decide +kernel
theorem dX7_nextToken_28 : decode cX7_nextToken 28 = .ok (.istore_n 1, 1) := by decide +kernel
theorem dX7_nextToken_29 : decode cX7_nextToken 29 = .ok (.aload_n 0, 1) := by decide +kernel
theorem dX7_nextToken_30 : decode cX7_nextToken 30 = .ok (.getfield 225, 3) := by decide +kernel
theorem dX7_nextToken_33 : decode cX7_nextToken 33 = .ok (.istore_n 2, 1) := by decide +kernel
theorem dX7_nextToken_34 : decode cX7_nextToken 34 = .ok (.aload_n 0, 1) := by decide +kernel
theorem dX7_nextToken_35 : decode cX7_nextToken 35 = .ok (.getfield 225, 3) := by decide +kernel
theorem dX7_nextToken_38 : decode cX7_nextToken 38 = .ok (.aload_n 0, 1) := by decide +kernel
theorem dX7_nextToken_39 : decode cX7_nextToken 39 = .ok (.getfield 213, 3) := by decide +kernel
theorem dX7_nextToken_42 : decode cX7_nextToken 42 = .ok (.if_icmp .ge 30, 3) := by decide +kernel
theorem dX7_nextToken_45 : decode cX7_nextToken 45 = .ok (.aload_n 0, 1) := by decide +kernel
theorem dX7_nextToken_46 : decode cX7_nextToken 46 = .ok (.getfield 49, 3) := by decide +kernel
theorem dX7_nextToken_49 : decode cX7_nextToken 49 = .ok (.aload_n 0, 1) := by decide +kernel
theorem dX7_nextToken_50 : decode cX7_nextToken 50 = .ok (.getfield 225, 3) := by decide +kernel
theorem dX7_nextToken_53 : decode cX7_nextToken 53 = .ok (.iaload, 1) := by decide +kernel
theorem dX7_nextToken_54 : decode cX7_nextToken 54 = .ok (.bipush 32, 2) := by decide +kernel
theorem dX7_nextToken_56 : decode cX7_nextToken 56 = .ok (.if_icmp .ne 16, 3) := by decide +kernel
theorem dX7_nextToken_59 : decode cX7_nextToken 59 = .ok (.aload_n 0, 1) := by decide +kernel
theorem dX7_nextToken_60 : decode cX7_nextToken 60 = .ok (.dup, 1) := by decide +kernel
theorem dX7_nextToken_61 : decode cX7_nextToken 61 = .ok (.getfield 225, 3) := by decide +kernel
theorem dX7_nextToken_64 : decode cX7_nextToken 64 = .ok (.iconst 1, 1) := by decide +kernel
theorem dX7_nextToken_65 : decode cX7_nextToken 65 = .ok (.iadd, 1) := by decide +kernel
theorem dX7_nextToken_66 : decode cX7_nextToken 66 = .ok (.putfield 225, 3) := by decide +kernel
theorem dX7_nextToken_69 : decode cX7_nextToken 69 = .ok (.goto (-35), 3) := by decide +kernel
theorem dX7_nextToken_72 : decode cX7_nextToken 72 = .ok (.iload_n 1, 1) := by decide +kernel
theorem dX7_nextToken_73 : decode cX7_nextToken 73 = .ok (.ifCond .eq 15, 3) := by decide +kernel
theorem dX7_nextToken_76 : decode cX7_nextToken 76 = .ok (.iload_n 2, 1) := by decide +kernel
theorem dX7_nextToken_77 : decode cX7_nextToken 77 = .ok (.aload_n 0, 1) := by decide +kernel
theorem dX7_nextToken_78 : decode cX7_nextToken 78 = .ok (.getfield 225, 3) := by decide +kernel
theorem dX7_nextToken_81 : decode cX7_nextToken 81 = .ok (.if_icmp .ne 7, 3) := by decide +kernel
theorem dX7_nextToken_84 : decode cX7_nextToken 84 = .ok (.iconst 1, 1) := by decide +kernel
theorem dX7_nextToken_85 : decode cX7_nextToken 85 = .ok (.goto 4, 3) := by decide +kernel
theorem dX7_nextToken_88 : decode cX7_nextToken 88 = .ok (.iconst 0, 1) := by decide +kernel
theorem dX7_nextToken_89 : decode cX7_nextToken 89 = .ok (.istore_n 1, 1) := by decide +kernel
theorem dX7_nextToken_90 : decode cX7_nextToken 90 = .ok (.aload_n 0, 1) := by decide +kernel
theorem dX7_nextToken_91 : decode cX7_nextToken 91 = .ok (.aload_n 0, 1) := by decide +kernel
theorem dX7_nextToken_92 : decode cX7_nextToken 92 = .ok (.getfield 225, 3) := by decide +kernel
theorem dX7_nextToken_95 : decode cX7_nextToken 95 = .ok (.putfield 231, 3) := by decide +kernel
theorem dX7_nextToken_98 : decode cX7_nextToken 98 = .ok (.aload_n 0, 1) := by decide +kernel
theorem dX7_nextToken_99 : decode cX7_nextToken 99 = .ok (.getfield 231, 3) := by decide +kernel
theorem dX7_nextToken_102 : decode cX7_nextToken 102 = .ok (.aload_n 0, 1) := by decide +kernel
theorem dX7_nextToken_103 : decode cX7_nextToken 103 = .ok (.getfield 213, 3) := by decide +kernel
theorem dX7_nextToken_106 : decode cX7_nextToken 106 = .ok (.if_icmp .ne 11, 3) := by decide +kernel
theorem dX7_nextToken_109 : decode cX7_nextToken 109 = .ok (.aload_n 0, 1) := by decide +kernel
theorem dX7_nextToken_110 : decode cX7_nextToken 110 = .ok (.iconst 0, 1) := by decide +kernel
theorem dX7_nextToken_111 : decode cX7_nextToken 111 = .ok (.putfield 228, 3) := by decide +kernel
theorem dX7_nextToken_114 : decode cX7_nextToken 114 = .ok (.goto 225, 3) := by decide +kernel
theorem dX7_nextToken_117 : decode cX7_nextToken 117 = .ok (.aload_n 0, 1) := by decide +kernel
theorem dX7_nextToken_118 : decode cX7_nextToken 118 = .ok (.aload_n 0, 1) := by decide +kernel
theorem dX7_nextToken_119 : decode cX7_nextToken 119 = .ok (.getfield 231, 3) := by decide +kernel
theorem dX7_nextToken_122 : decode cX7_nextToken 122 = .ok (.invokevirtual 234, 3) := by decide +kernel
theorem dX7_nextToken_125 : decode cX7_nextToken 125 = .ok (.ifCond .eq 73, 3) := by decide +kernel
theorem dX7_nextToken_128 : decode cX7_nextToken 128 = .ok (.aload_n 0, 1) := by decide +kernel
theorem dX7_nextToken_129 : decode cX7_nextToken 129 = .ok (.aload_n 0, 1) := by decide +kernel
theorem dX7_nextToken_130 : decode cX7_nextToken 130 = .ok (.getfield 225, 3) := by decide +kernel
theorem dX7_nextToken_133 : decode cX7_nextToken 133 = .ok (.invokevirtual 234, 3) := by decide +kernel
theorem dX7_nextToken_136 : decode cX7_nextToken 136 = .ok (.ifCond .eq 16, 3) := by decide +kernel
theorem dX7_nextToken_139 : decode cX7_nextToken 139 = .ok (.aload_n 0, 1) := by decide +kernel
theorem dX7_nextToken_140 : decode cX7_nextToken 140 = .ok (.dup, 1) := by decide +kernel
theorem dX7_nextToken_141 : decode cX7_nextToken 141 = .ok (.getfield 225, 3) := by decide +kernel
theorem dX7_nextToken_144 : decode cX7_nextToken 144 = .ok (.iconst 1, 1) := by decide +kernel
theorem dX7_nextToken_145 : decode cX7_nextToken 145 = .ok (.iadd, 1) := by decide +kernel
theorem dX7_nextToken_146 : decode cX7_nextToken 146 = .ok (.putfield 225, 3) := by decide +kernel
theorem dX7_nextToken_149 : decode cX7_nextToken 149 = .ok (.goto (-21), 3) := by decide +kernel
theorem dX7_nextToken_152 : decode cX7_nextToken 152 = .ok (.aload_n 0, 1) := by decide +kernel
theorem dX7_nextToken_153 : decode cX7_nextToken 153 = .ok (.iload_n 1, 1) := by decide +kernel
theorem dX7_nextToken_154 : decode cX7_nextToken 154 = .ok (.ifCond .eq 7, 3) := by decide +kernel
theorem dX7_nextToken_157 : decode cX7_nextToken 157 = .ok (.iconst 4, 1) := by decide +kernel
theorem dX7_nextToken_158 : decode cX7_nextToken 158 = .ok (.goto 4, 3) := by decide +kernel
theorem dX7_nextToken_161 : decode cX7_nextToken 161 = .ok (.iconst 1, 1) := by decide +kernel
theorem dX7_nextToken_162 : decode cX7_nextToken 162 = .ok (.putfield 228, 3) := by decide +kernel
theorem dX7_nextToken_165 : decode cX7_nextToken 165 = .ok (.aload_n 0, 1) := by decide +kernel
theorem dX7_nextToken_166 : decode cX7_nextToken 166 = .ok (.aload_n 0, 1) := by decide +kernel
theorem dX7_nextToken_167 : decode cX7_nextToken 167 = .ok (.getfield 225, 3) := by decide +kernel
theorem dX7_nextToken_170 : decode cX7_nextToken 170 = .ok (.aload_n 0, 1) := by decide +kernel
theorem dX7_nextToken_171 : decode cX7_nextToken 171 = .ok (.getfield 231, 3) := by decide +kernel
theorem dX7_nextToken_174 : decode cX7_nextToken 174 = .ok (.isub, 1) := by decide +kernel
theorem dX7_nextToken_175 : decode cX7_nextToken 175 = .ok (.iconst 1, 1) := by decide +kernel
theorem dX7_nextToken_176 : decode cX7_nextToken 176 = .ok (.if_icmp .ne 15, 3) := by decide +kernel
theorem dX7_nextToken_179 : decode cX7_nextToken 179 = .ok (.aload_n 0, 1) := by decide +kernel
theorem dX7_nextToken_180 : decode cX7_nextToken 180 = .ok (.getfield 49, 3) := by decide +kernel
theorem dX7_nextToken_183 : decode cX7_nextToken 183 = .ok (.aload_n 0, 1) := by decide +kernel
theorem dX7_nextToken_184 : decode cX7_nextToken 184 = .ok (.getfield 231, 3) := by decide +kernel
theorem dX7_nextToken_187 : decode cX7_nextToken 187 = .ok (.iaload, 1) := by decide +kernel
theorem dX7_nextToken_188 : decode cX7_nextToken 188 = .ok (.goto 4, 3) := by decide +kernel
theorem dX7_nextToken_191 : decode cX7_nextToken 191 = .ok (.iconst 0, 1) := by decide +kernel
theorem dX7_nextToken_192 : decode cX7_nextToken 192 = .ok (.putfield 237, 3) := by decide +kernel
theorem dX7_nextToken_195 : decode cX7_nextToken 195 = .ok (.goto 144, 3) := by decide +kernel
theorem dX7_nextToken_198 : decode cX7_nextToken 198 = .ok (.aload_n 0, 1) := by decide +kernel
theorem dX7_nextToken_199 : decode cX7_nextToken 199 = .ok (.aload_n 0, 1) := by decide +kernel
theorem dX7_nextToken_200 : decode cX7_nextToken 200 = .ok (.getfield 231, 3) := by decide +kernel
theorem dX7_nextToken_203 : decode cX7_nextToken 203 = .ok (.invokevirtual 240, 3) := by decide +kernel
theorem dX7_nextToken_206 : decode cX7_nextToken 206 = .ok (.ifCond .eq 105, 3) := by decide +kernel
theorem dX7_nextToken_209 : decode cX7_nextToken 209 = .ok (.aload_n 0, 1) := by decide +kernel
theorem dX7_nextToken_210 : decode cX7_nextToken 210 = .ok (.iconst 0, 1) := by decide +kernel
theorem dX7_nextToken_211 : decode cX7_nextToken 211 = .ok (.putfield 243, 3) := by decide +kernel
theorem dX7_nextToken_214 : decode cX7_nextToken 214 = .ok (.aload_n 0, 1) := by decide +kernel
theorem dX7_nextToken_215 : decode cX7_nextToken 215 = .ok (.aload_n 0, 1) := by decide +kernel
theorem dX7_nextToken_216 : decode cX7_nextToken 216 = .ok (.getfield 225, 3) := by decide +kernel
theorem dX7_nextToken_219 : decode cX7_nextToken 219 = .ok (.invokevirtual 240, 3) := by decide +kernel
theorem dX7_nextToken_222 : decode cX7_nextToken 222 = .ok (.ifCond .eq 60, 3) := by decide +kernel
theorem dX7_nextToken_225 : decode cX7_nextToken 225 = .ok (.aload_n 0, 1) := by decide +kernel
theorem dX7_nextToken_226 : decode cX7_nextToken 226 = .ok (.aload_n 0, 1) := by decide +kernel
theorem dX7_nextToken_227 : decode cX7_nextToken 227 = .ok (.getfield 225, 3) := by decide +kernel
theorem dX7_nextToken_230 : decode cX7_nextToken 230 = .ok (.aload_n 0, 1) := by decide +kernel
theorem dX7_nextToken_231 : decode cX7_nextToken 231 = .ok (.getfield 231, 3) := by decide +kernel
theorem dX7_nextToken_234 : decode cX7_nextToken 234 = .ok (.isub, 1) := by decide +kernel
theorem dX7_nextToken_235 : decode cX7_nextToken 235 = .ok (.iconst 4, 1) := by decide +kernel
theorem dX7_nextToken_236 : decode cX7_nextToken 236 = .ok (.if_icmp .ge 26, 3) := by decide +kernel
theorem dX7_nextToken_239 : decode cX7_nextToken 239 = .ok (.bipush 10, 2) := by decide +kernel
theorem dX7_nextToken_241 : decode cX7_nextToken 241 = .ok (.aload_n 0, 1) := by decide +kernel
theorem dX7_nextToken_242 : decode cX7_nextToken 242 = .ok (.getfield 243, 3) := by decide +kernel
theorem dX7_nextToken_245 : decode cX7_nextToken 245 = .ok (.imul, 1) := by decide +kernel
theorem dX7_nextToken_246 : decode cX7_nextToken 246 = .ok (.aload_n 0, 1) := by decide +kernel
theorem dX7_nextToken_247 : decode cX7_nextToken 247 = .ok (.getfield 49, 3) := by decide +kernel
theorem dX7_nextToken_250 : decode cX7_nextToken 250 = .ok (.aload_n 0, 1) := by decide +kernel
theorem dX7_nextToken_251 : decode cX7_nextToken 251 = .ok (.getfield 225, 3) := by decide +kernel
theorem dX7_nextToken_254 : decode cX7_nextToken 254 = .ok (.iaload, 1) := by decide +kernel
theorem dX7_nextToken_255 : decode cX7_nextToken 255 = .ok (.iadd, 1) := by decide +kernel
theorem dX7_nextToken_256 : decode cX7_nextToken 256 = .ok (.bipush 48, 2) := by decide +kernel
theorem dX7_nextToken_258 : decode cX7_nextToken 258 = .ok (.isub, 1) := by decide +kernel
theorem dX7_nextToken_259 : decode cX7_nextToken 259 = .ok (.goto 7, 3) := by decide +kernel
theorem dX7_nextToken_262 : decode cX7_nextToken 262 = .ok (.aload_n 0, 1) := by decide +kernel
theorem dX7_nextToken_263 : decode cX7_nextToken 263 = .ok (.getfield 243, 3) := by decide +kernel
theorem dX7_nextToken_266 : decode cX7_nextToken 266 = .ok (.putfield 243, 3) := by decide +kernel
theorem dX7_nextToken_269 : decode cX7_nextToken 269 = .ok (.aload_n 0, 1) := by decide +kernel
theorem dX7_nextToken_270 : decode cX7_nextToken 270 = .ok (.dup, 1) := by decide +kernel
theorem dX7_nextToken_271 : decode cX7_nextToken 271 = .ok (.getfield 225, 3) := by decide +kernel
theorem dX7_nextToken_274 : decode cX7_nextToken 274 = .ok (.iconst 1, 1) := by decide +kernel
theorem dX7_nextToken_275 : decode cX7_nextToken 275 = .ok (.iadd, 1) := by decide +kernel
theorem dX7_nextToken_276 : decode cX7_nextToken 276 = .ok (.putfield 225, 3) := by decide +kernel
theorem dX7_nextToken_279 : decode cX7_nextToken 279 = .ok (.goto (-65), 3) := by decide +kernel
theorem dX7_nextToken_282 : decode cX7_nextToken 282 = .ok (.aload_n 0, 1) := by decide +kernel
theorem dX7_nextToken_283 : decode cX7_nextToken 283 = .ok (.iload_n 1, 1) := by decide +kernel
theorem dX7_nextToken_284 : decode cX7_nextToken 284 = .ok (.ifCond .ne 16, 3) := by decide +kernel
theorem dX7_nextToken_287 : decode cX7_nextToken 287 = .ok (.aload_n 0, 1) := by decide +kernel
theorem dX7_nextToken_288 : decode cX7_nextToken 288 = .ok (.getfield 225, 3) := by decide +kernel
theorem dX7_nextToken_291 : decode cX7_nextToken 291 = .ok (.aload_n 0, 1) := by decide +kernel
theorem dX7_nextToken_292 : decode cX7_nextToken 292 = .ok (.getfield 231, 3) := by decide +kernel
theorem dX7_nextToken_295 : decode cX7_nextToken 295 = .ok (.isub, 1) := by decide +kernel
theorem dX7_nextToken_296 : decode cX7_nextToken 296 = .ok (.iconst 4, 1) := by decide +kernel
theorem dX7_nextToken_297 : decode cX7_nextToken 297 = .ok (.if_icmp .le 7, 3) := by decide +kernel
theorem dX7_nextToken_300 : decode cX7_nextToken 300 = .ok (.iconst 4, 1) := by decide +kernel
theorem dX7_nextToken_301 : decode cX7_nextToken 301 = .ok (.goto 4, 3) := by decide +kernel
theorem dX7_nextToken_304 : decode cX7_nextToken 304 = .ok (.iconst 2, 1) := by decide +kernel
theorem dX7_nextToken_305 : decode cX7_nextToken 305 = .ok (.putfield 228, 3) := by decide +kernel
theorem dX7_nextToken_308 : decode cX7_nextToken 308 = .ok (.goto 31, 3) := by decide +kernel
theorem dX7_nextToken_311 : decode cX7_nextToken 311 = .ok (.aload_n 0, 1) := by decide +kernel
theorem dX7_nextToken_312 : decode cX7_nextToken 312 = .ok (.iconst 3, 1) := by decide +kernel
theorem dX7_nextToken_313 : decode cX7_nextToken 313 = .ok (.putfield 228, 3) := by decide +kernel
theorem dX7_nextToken_316 : decode cX7_nextToken 316 = .ok (.aload_n 0, 1) := by decide +kernel
theorem dX7_nextToken_317 : decode cX7_nextToken 317 = .ok (.aload_n 0, 1) := by decide +kernel
theorem dX7_nextToken_318 : decode cX7_nextToken 318 = .ok (.getfield 49, 3) := by decide +kernel
theorem dX7_nextToken_321 : decode cX7_nextToken 321 = .ok (.aload_n 0, 1) := by decide +kernel
theorem dX7_nextToken_322 : decode cX7_nextToken 322 = .ok (.getfield 231, 3) := by decide +kernel
theorem dX7_nextToken_325 : decode cX7_nextToken 325 = .ok (.iaload, 1) := by decide +kernel
theorem dX7_nextToken_326 : decode cX7_nextToken 326 = .ok (.putfield 237, 3) := by decide +kernel
theorem dX7_nextToken_329 : decode cX7_nextToken 329 = .ok (.aload_n 0, 1) := by decide +kernel
theorem dX7_nextToken_330 : decode cX7_nextToken 330 = .ok (.dup, 1) := by decide +kernel
theorem dX7_nextToken_331 : decode cX7_nextToken 331 = .ok (.getfield 225, 3) := by decide +kernel
theorem dX7_nextToken_334 : decode cX7_nextToken 334 = .ok (.iconst 1, 1) := by decide +kernel
theorem dX7_nextToken_335 : decode cX7_nextToken 335 = .ok (.iadd, 1) := by decide +kernel
theorem dX7_nextToken_336 : decode cX7_nextToken 336 = .ok (.putfield 225, 3) := by decide +kernel
theorem dX7_nextToken_339 : decode cX7_nextToken 339 = .ok (.return_, 1) := by decide +kernel
theorem dX7_isSign_0 : decode cX7_isSign 0 = .ok (.aload_n 0, 1) := by decide +kernel
theorem dX7_isSign_1 : decode cX7_isSign 1 = .ok (.getfield 228, 3) := by decide +kernel
theorem dX7_isSign_4 : decode cX7_isSign 4 = .ok (.iconst 3, 1) := by decide +kernel
theorem dX7_isSign_5 : decode cX7_isSign 5 = .ok (.if_icmp .ne 15, 3) := by decide +kernel
theorem dX7_isSign_8 : decode cX7_isSign 8 = .ok (.aload_n 0, 1) := by decide +kernel
theorem dX7_isSign_9 : decode cX7_isSign 9 = .ok (.getfield 237, 3) := by decide +kernel
theorem dX7_isSign_12 : decode cX7_isSign 12 = .ok (.iload_n 1, 1) := by decide +kernel
theorem dX7_isSign_13 : decode cX7_isSign 13 = .ok (.if_icmp .ne 7, 3) := by decide +kernel
theorem dX7_isSign_16 : decode cX7_isSign 16 = .ok (.iconst 1, 1) := by decide +kernel
theorem dX7_isSign_17 : decode cX7_isSign 17 = .ok (.goto 4, 3) := by decide +kernel
theorem dX7_isSign_20 : decode cX7_isSign 20 = .ok (.iconst 0, 1) := by decide +kernel
theorem dX7_isSign_21 : decode cX7_isSign 21 = .ok (.ireturn, 1) := by decide +kernel
theorem dX7_isWordAt_0 : decode cX7_isWordAt 0 = .ok (.iload 4, 2) := by decide +kernel
theorem dX7_isWordAt_2 : decode cX7_isWordAt 2 = .ok (.ifCond .ne 7, 3) := by decide +kernel
theorem dX7_isWordAt_5 : decode cX7_isWordAt 5 = .ok (.iconst 3, 1) := by decide +kernel
theorem dX7_isWordAt_6 : decode cX7_isWordAt 6 = .ok (.goto 4, 3) := by decide +kernel
theorem dX7_isWordAt_9 : decode cX7_isWordAt 9 = .ok (.iconst 4, 1) := by decide +kernel
theorem dX7_isWordAt_10 : decode cX7_isWordAt 10 = .ok (.istore 5, 2) := by decide +kernel
theorem dX7_isWordAt_12 : decode cX7_isWordAt 12 = .ok (.aload_n 0, 1) := by decide +kernel
theorem dX7_isWordAt_13 : decode cX7_isWordAt 13 = .ok (.getfield 228, 3) := by decide +kernel
theorem dX7_isWordAt_16 : decode cX7_isWordAt 16 = .ok (.iconst 1, 1) := by decide +kernel
theorem dX7_isWordAt_17 : decode cX7_isWordAt 17 = .ok (.if_icmp .ne 85, 3) := by decide +kernel
theorem dX7_isWordAt_20 : decode cX7_isWordAt 20 = .ok (.aload_n 0, 1) := by decide +kernel
theorem dX7_isWordAt_21 : decode cX7_isWordAt 21 = .ok (.getfield 225, 3) := by decide +kernel
theorem dX7_isWordAt_24 : decode cX7_isWordAt 24 = .ok (.aload_n 0, 1) := by decide +kernel
theorem dX7_isWordAt_25 : decode cX7_isWordAt 25 = .ok (.getfield 231, 3) := by decide +kernel
theorem dX7_isWordAt_28 : decode cX7_isWordAt 28 = .ok (.isub, 1) := by decide +kernel
theorem dX7_isWordAt_29 : decode cX7_isWordAt 29 = .ok (.iload 5, 2) := by decide +kernel
theorem dX7_isWordAt_31 : decode cX7_isWordAt 31 = .ok (.if_icmp .ne 71, 3) := by decide +kernel
theorem dX7_isWordAt_34 : decode cX7_isWordAt 34 = .ok (.aload_n 0, 1) := by decide +kernel
theorem dX7_isWordAt_35 : decode cX7_isWordAt 35 = .ok (.getfield 49, 3) := by decide +kernel
theorem dX7_isWordAt_38 : decode cX7_isWordAt 38 = .ok (.aload_n 0, 1) := by decide +kernel
theorem dX7_isWordAt_39 : decode cX7_isWordAt 39 = .ok (.getfield 231, 3) := by decide +kernel
theorem dX7_isWordAt_42 : decode cX7_isWordAt 42 = .ok (.iaload, 1) := by decide +kernel
theorem dX7_isWordAt_43 : decode cX7_isWordAt 43 = .ok (.iload_n 1, 1) := by decide +kernel
theorem dX7_isWordAt_44 : decode cX7_isWordAt 44 = .ok (.if_icmp .ne 58, 3) := by decide +kernel
theorem dX7_isWordAt_47 : decode cX7_isWordAt 47 = .ok (.aload_n 0, 1) := by decide +kernel
theorem dX7_isWordAt_48 : decode cX7_isWordAt 48 = .ok (.getfield 49, 3) := by decide +kernel
theorem dX7_isWordAt_51 : decode cX7_isWordAt 51 = .ok (.aload_n 0, 1) := by decide +kernel
theorem dX7_isWordAt_52 : decode cX7_isWordAt 52 = .ok (.getfield 231, 3) := by decide +kernel
theorem dX7_isWordAt_55 : decode cX7_isWordAt 55 = .ok (.iconst 1, 1) := by decide +kernel
theorem dX7_isWordAt_56 : decode cX7_isWordAt 56 = .ok (.iadd, 1) := by decide +kernel
theorem dX7_isWordAt_57 : decode cX7_isWordAt 57 = .ok (.iaload, 1) := by decide +kernel
theorem dX7_isWordAt_58 : decode cX7_isWordAt 58 = .ok (.iload_n 2, 1) := by decide +kernel
theorem dX7_isWordAt_59 : decode cX7_isWordAt 59 = .ok (.if_icmp .ne 43, 3) := by decide +kernel
theorem dX7_isWordAt_62 : decode cX7_isWordAt 62 = .ok (.aload_n 0, 1) := by decide +kernel
theorem dX7_isWordAt_63 : decode cX7_isWordAt 63 = .ok (.getfield 49, 3) := by decide +kernel
theorem dX7_isWordAt_66 : decode cX7_isWordAt 66 = .ok (.aload_n 0, 1) := by decide +kernel
theorem dX7_isWordAt_67 : decode cX7_isWordAt 67 = .ok (.getfield 231, 3) := by decide +kernel
theorem dX7_isWordAt_70 : decode cX7_isWordAt 70 = .ok (.iconst 2, 1) := by decide +kernel
end
section
theorem dX7_isWordAt_71 : decode cX7_isWordAt 71 = .ok (.iadd, 1) := by decide +kernel
theorem dX7_isWordAt_72 : decode cX7_isWordAt 72 = .ok (.iaload, 1) := by decide +kernel
theorem dX7_isWordAt_73 : decode cX7_isWordAt 73 = .ok (.iload_n 3, 1) := by decide +kernel
theorem dX7_isWordAt_74 : decode cX7_isWordAt 74 = .ok (.if_icmp .ne 28, 3) := by decide +kernel
theorem dX7_isWordAt_77 : decode cX7_isWordAt 77 = .ok (.iload 4, 2) := by decide +kernel
theorem dX7_isWordAt_79 : decode cX7_isWordAt 79 = .ok (.ifCond .eq 19, 3) := by decide +kernel
theorem dX7_isWordAt_82 : decode cX7_isWordAt 82 = .ok (.aload_n 0, 1) := by decide +kernel
theorem dX7_isWordAt_83 : decode cX7_isWordAt 83 = .ok (.getfield 49, 3) := by decide +kernel
theorem dX7_isWordAt_86 : decode cX7_isWordAt 86 = .ok (.aload_n 0, 1) := by decide +kernel
theorem dX7_isWordAt_87 : decode cX7_isWordAt 87 = .ok (.getfield 231, 3) := by decide +kernel
theorem dX7_isWordAt_90 : decode cX7_isWordAt 90 = .ok (.iconst 3, 1) := by decide +kernel
theorem dX7_isWordAt_91 : decode cX7_isWordAt 91 = .ok (.iadd, 1) := by decide +kernel
theorem dX7_isWordAt_92 : decode cX7_isWordAt 92 = .ok (.iaload, 1) := by decide +kernel
theorem dX7_isWordAt_93 : decode cX7_isWordAt 93 = .ok (.iload 4, 2) := by decide +kernel
theorem dX7_isWordAt_95 : decode cX7_isWordAt 95 = .ok (.if_icmp .ne 7, 3) := by decide +kernel
theorem dX7_isWordAt_98 : decode cX7_isWordAt 98 = .ok (.iconst 1, 1) := by decide +kernel
theorem dX7_isWordAt_99 : decode cX7_isWordAt 99 = .ok (.goto 4, 3) := by decide +kernel
theorem dX7_isWordAt_102 : decode cX7_isWordAt 102 = .ok (.iconst 0, 1) := by decide +kernel
theorem dX7_isWordAt_103 : decode cX7_isWordAt 103 = .ok (.ireturn, 1) := by decide +kernel
theorem dX7_isLong_0 : decode cX7_isLong 0 = .ok (.iload 6, 2) := by decide +kernel
theorem dX7_isLong_2 : decode cX7_isLong 2 = .ok (.ifCond .ne 7, 3) := by decide +kernel
theorem dX7_isLong_5 : decode cX7_isLong 5 = .ok (.iconst 5, 1) := by decide +kernel
theorem dX7_isLong_6 : decode cX7_isLong 6 = .ok (.goto 5, 3) := by decide +kernel
theorem dX7_isLong_9 : decode cX7_isLong 9 = .ok (.bipush 6, 2) := by decide +kernel
theorem dX7_isLong_11 : decode cX7_isLong 11 = .ok (.istore 7, 2) := by decide +kernel
theorem dX7_isLong_13 : decode cX7_isLong 13 = .ok (.aload_n 0, 1) := by decide +kernel
theorem dX7_isLong_14 : decode cX7_isLong 14 = .ok (.getfield 228, 3) := by decide +kernel
theorem dX7_isLong_17 : decode cX7_isLong 17 = .ok (.iconst 1, 1) := by decide +kernel
theorem dX7_isLong_18 : decode cX7_isLong 18 = .ok (.if_icmp .ne 117, 3) := by decide +kernel
theorem dX7_isLong_21 : decode cX7_isLong 21 = .ok (.aload_n 0, 1) := by decide +kernel
theorem dX7_isLong_22 : decode cX7_isLong 22 = .ok (.getfield 225, 3) := by decide +kernel
theorem dX7_isLong_25 : decode cX7_isLong 25 = .ok (.aload_n 0, 1) := by decide +kernel
theorem dX7_isLong_26 : decode cX7_isLong 26 = .ok (.getfield 231, 3) := by decide +kernel
theorem dX7_isLong_29 : decode cX7_isLong 29 = .ok (.isub, 1) := by decide +kernel
theorem dX7_isLong_30 : decode cX7_isLong 30 = .ok (.iload 7, 2) := by decide +kernel
theorem dX7_isLong_32 : decode cX7_isLong 32 = .ok (.if_icmp .ne 103, 3) := by decide +kernel
theorem dX7_isLong_35 : decode cX7_isLong 35 = .ok (.aload_n 0, 1) := by decide +kernel
theorem dX7_isLong_36 : decode cX7_isLong 36 = .ok (.getfield 49, 3) := by decide +kernel
theorem dX7_isLong_39 : decode cX7_isLong 39 = .ok (.aload_n 0, 1) := by decide +kernel
theorem dX7_isLong_40 : decode cX7_isLong 40 = .ok (.getfield 231, 3) := by decide +kernel
theorem dX7_isLong_43 : decode cX7_isLong 43 = .ok (.iaload, 1) := by decide +kernel
theorem dX7_isLong_44 : decode cX7_isLong 44 = .ok (.iload_n 1, 1) := by decide +kernel
theorem dX7_isLong_45 : decode cX7_isLong 45 = .ok (.if_icmp .ne 90, 3) := by decide +kernel
theorem dX7_isLong_48 : decode cX7_isLong 48 = .ok (.aload_n 0, 1) := by decide +kernel
theorem dX7_isLong_49 : decode cX7_isLong 49 = .ok (.getfield 49, 3) := by decide +kernel
theorem dX7_isLong_52 : decode cX7_isLong 52 = .ok (.aload_n 0, 1) := by decide +kernel
theorem dX7_isLong_53 : decode cX7_isLong 53 = .ok (.getfield 231, 3) := by decide +kernel
theorem dX7_isLong_56 : decode cX7_isLong 56 = .ok (.iconst 1, 1) := by decide +kernel
theorem dX7_isLong_57 : decode cX7_isLong 57 = .ok (.iadd, 1) := by decide +kernel
theorem dX7_isLong_58 : decode cX7_isLong 58 = .ok (.iaload, 1) := by decide +kernel
theorem dX7_isLong_59 : decode cX7_isLong 59 = .ok (.iload_n 2, 1) := by decide +kernel
theorem dX7_isLong_60 : decode cX7_isLong 60 = .ok (.if_icmp .ne 75, 3) := by decide +kernel
theorem dX7_isLong_63 : decode cX7_isLong 63 = .ok (.aload_n 0, 1) := by decide +kernel
theorem dX7_isLong_64 : decode cX7_isLong 64 = .ok (.getfield 49, 3) := by decide +kernel
theorem dX7_isLong_67 : decode cX7_isLong 67 = .ok (.aload_n 0, 1) := by decide +kernel
theorem dX7_isLong_68 : decode cX7_isLong 68 = .ok (.getfield 231, 3) := by decide +kernel
theorem dX7_isLong_71 : decode cX7_isLong 71 = .ok (.iconst 2, 1) := by decide +kernel
theorem dX7_isLong_72 : decode cX7_isLong 72 = .ok (.iadd, 1) := by decide +kernel
theorem dX7_isLong_73 : decode cX7_isLong 73 = .ok (.iaload, 1) := by decide +kernel
theorem dX7_isLong_74 : decode cX7_isLong 74 = .ok (.iload_n 3, 1) := by decide +kernel
theorem dX7_isLong_75 : decode cX7_isLong 75 = .ok (.if_icmp .ne 60, 3) := by decide +kernel
theorem dX7_isLong_78 : decode cX7_isLong 78 = .ok (.aload_n 0, 1) := by decide +kernel
theorem dX7_isLong_79 : decode cX7_isLong 79 = .ok (.getfield 49, 3) := by decide +kernel
theorem dX7_isLong_82 : decode cX7_isLong 82 = .ok (.aload_n 0, 1) := by decide +kernel
theorem dX7_isLong_83 : decode cX7_isLong 83 = .ok (.getfield 231, 3) := by decide +kernel
theorem dX7_isLong_86 : decode cX7_isLong 86 = .ok (.iconst 3, 1) := by decide +kernel
theorem dX7_isLong_87 : decode cX7_isLong 87 = .ok (.iadd, 1) := by decide +kernel
theorem dX7_isLong_88 : decode cX7_isLong 88 = .ok (.iaload, 1) := by decide +kernel
theorem dX7_isLong_89 : decode cX7_isLong 89 = .ok (.iload 4, 2) := by decide +kernel
theorem dX7_isLong_91 : decode cX7_isLong 91 = .ok (.if_icmp .ne 44, 3) := by decide +kernel
theorem dX7_isLong_94 : decode cX7_isLong 94 = .ok (.aload_n 0, 1) := by decide +kernel
theorem dX7_isLong_95 : decode cX7_isLong 95 = .ok (.getfield 49, 3) := by decide +kernel
theorem dX7_isLong_98 : decode cX7_isLong 98 = .ok (.aload_n 0, 1) := by decide +kernel
theorem dX7_isLong_99 : decode cX7_isLong 99 = .ok (.getfield 231, 3) := by decide +kernel
theorem dX7_isLong_102 : decode cX7_isLong 102 = .ok (.iconst 4, 1) := by decide +kernel
theorem dX7_isLong_103 : decode cX7_isLong 103 = .ok (.iadd, 1) := by decide +kernel
theorem dX7_isLong_104 : decode cX7_isLong 104 = .ok (.iaload, 1) := by decide +kernel
theorem dX7_isLong_105 : decode cX7_isLong 105 = .ok (.iload 5, 2) := by decide +kernel
theorem dX7_isLong_107 : decode cX7_isLong 107 = .ok (.if_icmp .ne 28, 3) := by decide +kernel
theorem dX7_isLong_110 : decode cX7_isLong 110 = .ok (.iload 6, 2) := by decide +kernel
theorem dX7_isLong_112 : decode cX7_isLong 112 = .ok (.ifCond .eq 19, 3) := by decide +kernel
theorem dX7_isLong_115 : decode cX7_isLong 115 = .ok (.aload_n 0, 1) := by decide +kernel
theorem dX7_isLong_116 : decode cX7_isLong 116 = .ok (.getfield 49, 3) := by decide +kernel
theorem dX7_isLong_119 : decode cX7_isLong 119 = .ok (.aload_n 0, 1) := by decide +kernel
theorem dX7_isLong_120 : decode cX7_isLong 120 = .ok (.getfield 231, 3) := by decide +kernel
theorem dX7_isLong_123 : decode cX7_isLong 123 = .ok (.iconst 5, 1) := by decide +kernel
theorem dX7_isLong_124 : decode cX7_isLong 124 = .ok (.iadd, 1) := by decide +kernel
theorem dX7_isLong_125 : decode cX7_isLong 125 = .ok (.iaload, 1) := by decide +kernel
theorem dX7_isLong_126 : decode cX7_isLong 126 = .ok (.iload 6, 2) := by decide +kernel
theorem dX7_isLong_128 : decode cX7_isLong 128 = .ok (.if_icmp .ne 7, 3) := by decide +kernel
theorem dX7_isLong_131 : decode cX7_isLong 131 = .ok (.iconst 1, 1) := by decide +kernel
theorem dX7_isLong_132 : decode cX7_isLong 132 = .ok (.goto 4, 3) := by decide +kernel
theorem dX7_isLong_135 : decode cX7_isLong 135 = .ok (.iconst 0, 1) := by decide +kernel
theorem dX7_isLong_136 : decode cX7_isLong 136 = .ok (.ireturn, 1) := by decide +kernel
theorem dX7_key_0 : decode cX7_key 0 = .ok (.aload_n 0, 1) := by decide +kernel
theorem dX7_key_1 : decode cX7_key 1 = .ok (.bipush 112, 2) := by decide +kernel
theorem dX7_key_3 : decode cX7_key 3 = .ok (.bipush 114, 2) := by decide +kernel
theorem dX7_key_5 : decode cX7_key 5 = .ok (.bipush 105, 2) := by decide +kernel
theorem dX7_key_7 : decode cX7_key 7 = .ok (.bipush 99, 2) := by decide +kernel
theorem dX7_key_9 : decode cX7_key 9 = .ok (.bipush 101, 2) := by decide +kernel
theorem dX7_key_11 : decode cX7_key 11 = .ok (.iconst 0, 1) := by decide +kernel
theorem dX7_key_12 : decode cX7_key 12 = .ok (.invokevirtual 246, 3) := by decide +kernel
theorem dX7_key_15 : decode cX7_key 15 = .ok (.ifCond .eq 5, 3) := by decide +kernel
theorem dX7_key_18 : decode cX7_key 18 = .ok (.iconst 0, 1) := by decide +kernel
theorem dX7_key_19 : decode cX7_key 19 = .ok (.ireturn, 1) := by decide +kernel
theorem dX7_key_20 : decode cX7_key 20 = .ok (.aload_n 0, 1) := by decide +kernel
theorem dX7_key_21 : decode cX7_key 21 = .ok (.bipush 119, 2) := by decide +kernel
theorem dX7_key_23 : decode cX7_key 23 = .ok (.bipush 101, 2) := by decide +kernel
theorem dX7_key_25 : decode cX7_key 25 = .ok (.bipush 97, 2) := by decide +kernel
theorem dX7_key_27 : decode cX7_key 27 = .ok (.bipush 114, 2) := by decide +kernel
theorem dX7_key_29 : decode cX7_key 29 = .ok (.invokevirtual 250, 3) := by decide +kernel
theorem dX7_key_32 : decode cX7_key 32 = .ok (.ifCond .eq 5, 3) := by decide +kernel
theorem dX7_key_35 : decode cX7_key 35 = .ok (.iconst 1, 1) := by decide +kernel
theorem dX7_key_36 : decode cX7_key 36 = .ok (.ireturn, 1) := by decide +kernel
theorem dX7_key_37 : decode cX7_key 37 = .ok (.aload_n 0, 1) := by decide +kernel
theorem dX7_key_38 : decode cX7_key 38 = .ok (.bipush 102, 2) := by decide +kernel
theorem dX7_key_40 : decode cX7_key 40 = .ok (.bipush 105, 2) := by decide +kernel
theorem dX7_key_42 : decode cX7_key 42 = .ok (.bipush 110, 2) := by decide +kernel
theorem dX7_key_44 : decode cX7_key 44 = .ok (.bipush 101, 2) := by decide +kernel
theorem dX7_key_46 : decode cX7_key 46 = .ok (.invokevirtual 250, 3) := by decide +kernel
theorem dX7_key_49 : decode cX7_key 49 = .ok (.ifCond .eq 7, 3) := by decide +kernel
theorem dX7_key_52 : decode cX7_key 52 = .ok (.iconst 2, 1) := by decide +kernel
theorem dX7_key_53 : decode cX7_key 53 = .ok (.goto 4, 3) := by decide +kernel
theorem dX7_key_56 : decode cX7_key 56 = .ok (.iconst (-1), 1) := by decide +kernel
theorem dX7_key_57 : decode cX7_key 57 = .ok (.ireturn, 1) := by decide +kernel
theorem dX7_isName_0 : decode cX7_isName 0 = .ok (.iload_n 0, 1) := by decide +kernel
theorem dX7_isName_1 : decode cX7_isName 1 = .ok (.lookupswitch 75 #[(0, 27), (1, 51)], 27) := by decide +kernel
theorem dX7_isName_28 : decode cX7_isName 28 = .ok (.iload_n 1, 1) := by decide +kernel
theorem dX7_isName_29 : decode cX7_isName 29 = .ok (.bipush 116, 2) := by decide +kernel
theorem dX7_isName_31 : decode cX7_isName 31 = .ok (.if_icmp .eq 15, 3) := by decide +kernel
theorem dX7_isName_34 : decode cX7_isName 34 = .ok (.iload_n 1, 1) := by decide +kernel
theorem dX7_isName_35 : decode cX7_isName 35 = .ok (.bipush 119, 2) := by decide +kernel
theorem dX7_isName_37 : decode cX7_isName 37 = .ok (.if_icmp .eq 9, 3) := by decide +kernel
theorem dX7_isName_40 : decode cX7_isName 40 = .ok (.iload_n 1, 1) := by decide +kernel
theorem dX7_isName_41 : decode cX7_isName 41 = .ok (.bipush 100, 2) := by decide +kernel
theorem dX7_isName_43 : decode cX7_isName 43 = .ok (.if_icmp .ne 7, 3) := by decide +kernel
theorem dX7_isName_46 : decode cX7_isName 46 = .ok (.iconst 1, 1) := by decide +kernel
theorem dX7_isName_47 : decode cX7_isName 47 = .ok (.goto 4, 3) := by decide +kernel
theorem dX7_isName_50 : decode cX7_isName 50 = .ok (.iconst 0, 1) := by decide +kernel
theorem dX7_isName_51 : decode cX7_isName 51 = .ok (.ireturn, 1) := by decide +kernel
theorem dX7_isName_52 : decode cX7_isName 52 = .ok (.iload_n 1, 1) := by decide +kernel
theorem dX7_isName_53 : decode cX7_isName 53 = .ok (.bipush 120, 2) := by decide +kernel
theorem dX7_isName_55 : decode cX7_isName 55 = .ok (.if_icmp .eq 15, 3) := by decide +kernel
theorem dX7_isName_58 : decode cX7_isName 58 = .ok (.iload_n 1, 1) := by decide +kernel
theorem dX7_isName_59 : decode cX7_isName 59 = .ok (.bipush 116, 2) := by decide +kernel
theorem dX7_isName_61 : decode cX7_isName 61 = .ok (.if_icmp .eq 9, 3) := by decide +kernel
theorem dX7_isName_64 : decode cX7_isName 64 = .ok (.iload_n 1, 1) := by decide +kernel
theorem dX7_isName_65 : decode cX7_isName 65 = .ok (.bipush 119, 2) := by decide +kernel
theorem dX7_isName_67 : decode cX7_isName 67 = .ok (.if_icmp .ne 7, 3) := by decide +kernel
theorem dX7_isName_70 : decode cX7_isName 70 = .ok (.iconst 1, 1) := by decide +kernel
theorem dX7_isName_71 : decode cX7_isName 71 = .ok (.goto 4, 3) := by decide +kernel
theorem dX7_isName_74 : decode cX7_isName 74 = .ok (.iconst 0, 1) := by decide +kernel
theorem dX7_isName_75 : decode cX7_isName 75 = .ok (.ireturn, 1) := by decide +kernel
theorem dX7_isName_76 : decode cX7_isName 76 = .ok (.iload_n 1, 1) := by decide +kernel
theorem dX7_isName_77 : decode cX7_isName 77 = .ok (.bipush 99, 2) := by decide +kernel
theorem dX7_isName_79 : decode cX7_isName 79 = .ok (.if_icmp .eq 9, 3) := by decide +kernel
theorem dX7_isName_82 : decode cX7_isName 82 = .ok (.iload_n 1, 1) := by decide +kernel
theorem dX7_isName_83 : decode cX7_isName 83 = .ok (.bipush 110, 2) := by decide +kernel
theorem dX7_isName_85 : decode cX7_isName 85 = .ok (.if_icmp .ne 7, 3) := by decide +kernel
theorem dX7_isName_88 : decode cX7_isName 88 = .ok (.iconst 1, 1) := by decide +kernel
theorem dX7_isName_89 : decode cX7_isName 89 = .ok (.goto 4, 3) := by decide +kernel
theorem dX7_isName_92 : decode cX7_isName 92 = .ok (.iconst 0, 1) := by decide +kernel
theorem dX7_isName_93 : decode cX7_isName 93 = .ok (.ireturn, 1) := by decide +kernel
theorem dX7_step_0 : decode cX7_step 0 = .ok (.aload_n 0, 1) := by decide +kernel
theorem dX7_step_1 : decode cX7_step 1 = .ok (.getfield 7, 3) := by decide +kernel
theorem dX7_step_4 : decode cX7_step 4 = .ok (.aload_n 0, 1) := by decide +kernel
theorem dX7_step_5 : decode cX7_step 5 = .ok (.getfield 254, 3) := by decide +kernel
theorem dX7_step_8 : decode cX7_step 8 = .ok (.iconst 2, 1) := by decide +kernel
theorem dX7_step_9 : decode cX7_step 9 = .ok (.aload_n 0, 1) := by decide +kernel
theorem dX7_step_10 : decode cX7_step 10 = .ok (.getfield 257, 3) := by decide +kernel
theorem dX7_step_13 : decode cX7_step 13 = .ok (.imul, 1) := by decide +kernel
theorem dX7_step_14 : decode cX7_step 14 = .ok (.iadd, 1) := by decide +kernel
theorem dX7_step_15 : decode cX7_step 15 = .ok (.iload_n 1, 1) := by decide +kernel
theorem dX7_step_16 : decode cX7_step 16 = .ok (.iastore, 1) := by decide +kernel
theorem dX7_step_17 : decode cX7_step 17 = .ok (.aload_n 0, 1) := by decide +kernel
theorem dX7_step_18 : decode cX7_step 18 = .ok (.getfield 7, 3) := by decide +kernel
theorem dX7_step_21 : decode cX7_step 21 = .ok (.aload_n 0, 1) := by decide +kernel
theorem dX7_step_22 : decode cX7_step 22 = .ok (.getfield 254, 3) := by decide +kernel
theorem dX7_step_25 : decode cX7_step 25 = .ok (.iconst 2, 1) := by decide +kernel
theorem dX7_step_26 : decode cX7_step 26 = .ok (.aload_n 0, 1) := by decide +kernel
theorem dX7_step_27 : decode cX7_step 27 = .ok (.getfield 257, 3) := by decide +kernel
theorem dX7_step_30 : decode cX7_step 30 = .ok (.imul, 1) := by decide +kernel
theorem dX7_step_31 : decode cX7_step 31 = .ok (.iadd, 1) := by decide +kernel
theorem dX7_step_32 : decode cX7_step 32 = .ok (.iconst 1, 1) := by decide +kernel
theorem dX7_step_33 : decode cX7_step 33 = .ok (.iadd, 1) := by decide +kernel
theorem dX7_step_34 : decode cX7_step 34 = .ok (.iload_n 2, 1) := by decide +kernel
theorem dX7_step_35 : decode cX7_step 35 = .ok (.iastore, 1) := by decide +kernel
theorem dX7_step_36 : decode cX7_step 36 = .ok (.aload_n 0, 1) := by decide +kernel
theorem dX7_step_37 : decode cX7_step 37 = .ok (.dup, 1) := by decide +kernel
theorem dX7_step_38 : decode cX7_step 38 = .ok (.getfield 257, 3) := by decide +kernel
theorem dX7_step_41 : decode cX7_step 41 = .ok (.iconst 1, 1) := by decide +kernel
theorem dX7_step_42 : decode cX7_step 42 = .ok (.iadd, 1) := by decide +kernel
theorem dX7_step_43 : decode cX7_step 43 = .ok (.putfield 257, 3) := by decide +kernel
theorem dX7_step_46 : decode cX7_step 46 = .ok (.return_, 1) := by decide +kernel
theorem dX7_either_0 : decode cX7_either 0 = .ok (.aload_n 0, 1) := by decide +kernel
theorem dX7_either_1 : decode cX7_either 1 = .ok (.iload_n 1, 1) := by decide +kernel
theorem dX7_either_2 : decode cX7_either 2 = .ok (.invokevirtual 260, 3) := by decide +kernel
theorem dX7_either_5 : decode cX7_either 5 = .ok (.ifCond .ne 5, 3) := by decide +kernel
theorem dX7_either_8 : decode cX7_either 8 = .ok (.iconst 0, 1) := by decide +kernel
theorem dX7_either_9 : decode cX7_either 9 = .ok (.ireturn, 1) := by decide +kernel
theorem dX7_either_10 : decode cX7_either 10 = .ok (.aload_n 0, 1) := by decide +kernel
theorem dX7_either_11 : decode cX7_either 11 = .ok (.bipush 124, 2) := by decide +kernel
theorem dX7_either_13 : decode cX7_either 13 = .ok (.invokevirtual 263, 3) := by decide +kernel
theorem dX7_either_16 : decode cX7_either 16 = .ok (.ifCond .eq 27, 3) := by decide +kernel
theorem dX7_either_19 : decode cX7_either 19 = .ok (.aload_n 0, 1) := by decide +kernel
theorem dX7_either_20 : decode cX7_either 20 = .ok (.invokevirtual 266, 3) := by decide +kernel
theorem dX7_either_23 : decode cX7_either 23 = .ok (.aload_n 0, 1) := by decide +kernel
theorem dX7_either_24 : decode cX7_either 24 = .ok (.iload_n 1, 1) := by decide +kernel
theorem dX7_either_25 : decode cX7_either 25 = .ok (.invokevirtual 260, 3) := by decide +kernel
theorem dX7_either_28 : decode cX7_either 28 = .ok (.ifCond .ne 5, 3) := by decide +kernel
theorem dX7_either_31 : decode cX7_either 31 = .ok (.iconst 0, 1) := by decide +kernel
theorem dX7_either_32 : decode cX7_either 32 = .ok (.ireturn, 1) := by decide +kernel
theorem dX7_either_33 : decode cX7_either 33 = .ok (.aload_n 0, 1) := by decide +kernel
theorem dX7_either_34 : decode cX7_either 34 = .ok (.iconst 2, 1) := by decide +kernel
theorem dX7_either_35 : decode cX7_either 35 = .ok (.bipush 124, 2) := by decide +kernel
theorem dX7_either_37 : decode cX7_either 37 = .ok (.invokevirtual 269, 3) := by decide +kernel
theorem dX7_either_40 : decode cX7_either 40 = .ok (.goto (-30), 3) := by decide +kernel
theorem dX7_either_43 : decode cX7_either 43 = .ok (.iconst 1, 1) := by decide +kernel
theorem dX7_either_44 : decode cX7_either 44 = .ok (.ireturn, 1) := by decide +kernel
theorem dX7_both_0 : decode cX7_both 0 = .ok (.aload_n 0, 1) := by decide +kernel
theorem dX7_both_1 : decode cX7_both 1 = .ok (.iload_n 1, 1) := by decide +kernel
theorem dX7_both_2 : decode cX7_both 2 = .ok (.invokevirtual 273, 3) := by decide +kernel
theorem dX7_both_5 : decode cX7_both 5 = .ok (.ifCond .ne 5, 3) := by decide +kernel
theorem dX7_both_8 : decode cX7_both 8 = .ok (.iconst 0, 1) := by decide +kernel
theorem dX7_both_9 : decode cX7_both 9 = .ok (.ireturn, 1) := by decide +kernel
theorem dX7_both_10 : decode cX7_both 10 = .ok (.aload_n 0, 1) := by decide +kernel
theorem dX7_both_11 : decode cX7_both 11 = .ok (.bipush 38, 2) := by decide +kernel
theorem dX7_both_13 : decode cX7_both 13 = .ok (.invokevirtual 263, 3) := by decide +kernel
theorem dX7_both_16 : decode cX7_both 16 = .ok (.ifCond .eq 27, 3) := by decide +kernel
theorem dX7_both_19 : decode cX7_both 19 = .ok (.aload_n 0, 1) := by decide +kernel
theorem dX7_both_20 : decode cX7_both 20 = .ok (.invokevirtual 266, 3) := by decide +kernel
theorem dX7_both_23 : decode cX7_both 23 = .ok (.aload_n 0, 1) := by decide +kernel
theorem dX7_both_24 : decode cX7_both 24 = .ok (.iload_n 1, 1) := by decide +kernel
theorem dX7_both_25 : decode cX7_both 25 = .ok (.invokevirtual 273, 3) := by decide +kernel
theorem dX7_both_28 : decode cX7_both 28 = .ok (.ifCond .ne 5, 3) := by decide +kernel
theorem dX7_both_31 : decode cX7_both 31 = .ok (.iconst 0, 1) := by decide +kernel
theorem dX7_both_32 : decode cX7_both 32 = .ok (.ireturn, 1) := by decide +kernel
theorem dX7_both_33 : decode cX7_both 33 = .ok (.aload_n 0, 1) := by decide +kernel
theorem dX7_both_34 : decode cX7_both 34 = .ok (.iconst 2, 1) := by decide +kernel
theorem dX7_both_35 : decode cX7_both 35 = .ok (.bipush 38, 2) := by decide +kernel
theorem dX7_both_37 : decode cX7_both 37 = .ok (.invokevirtual 269, 3) := by decide +kernel
theorem dX7_both_40 : decode cX7_both 40 = .ok (.goto (-30), 3) := by decide +kernel
theorem dX7_both_43 : decode cX7_both 43 = .ok (.iconst 1, 1) := by decide +kernel
theorem dX7_both_44 : decode cX7_both 44 = .ok (.ireturn, 1) := by decide +kernel
theorem dX7_test_0 : decode cX7_test 0 = .ok (.aload_n 0, 1) := by decide +kernel
theorem dX7_test_1 : decode cX7_test 1 = .ok (.iload_n 1, 1) := by decide +kernel
theorem dX7_test_2 : decode cX7_test 2 = .ok (.invokevirtual 276, 3) := by decide +kernel
theorem dX7_test_5 : decode cX7_test 5 = .ok (.ifCond .ne 5, 3) := by decide +kernel
theorem dX7_test_8 : decode cX7_test 8 = .ok (.iconst 0, 1) := by decide +kernel
theorem dX7_test_9 : decode cX7_test 9 = .ok (.ireturn, 1) := by decide +kernel
theorem dX7_test_10 : decode cX7_test 10 = .ok (.aload_n 0, 1) := by decide +kernel
theorem dX7_test_11 : decode cX7_test 11 = .ok (.bipush 60, 2) := by decide +kernel
theorem dX7_test_13 : decode cX7_test 13 = .ok (.invokevirtual 263, 3) := by decide +kernel
theorem dX7_test_16 : decode cX7_test 16 = .ok (.ifCond .ne 21, 3) := by decide +kernel
theorem dX7_test_19 : decode cX7_test 19 = .ok (.aload_n 0, 1) := by decide +kernel
theorem dX7_test_20 : decode cX7_test 20 = .ok (.bipush 61, 2) := by decide +kernel
theorem dX7_test_22 : decode cX7_test 22 = .ok (.invokevirtual 263, 3) := by decide +kernel
theorem dX7_test_25 : decode cX7_test 25 = .ok (.ifCond .ne 12, 3) := by decide +kernel
theorem dX7_test_28 : decode cX7_test 28 = .ok (.aload_n 0, 1) := by decide +kernel
theorem dX7_test_29 : decode cX7_test 29 = .ok (.bipush 62, 2) := by decide +kernel
theorem dX7_test_31 : decode cX7_test 31 = .ok (.invokevirtual 263, 3) := by decide +kernel
theorem dX7_test_34 : decode cX7_test 34 = .ok (.ifCond .eq 28, 3) := by decide +kernel
theorem dX7_test_37 : decode cX7_test 37 = .ok (.aload_n 0, 1) := by decide +kernel
theorem dX7_test_38 : decode cX7_test 38 = .ok (.getfield 237, 3) := by decide +kernel
theorem dX7_test_41 : decode cX7_test 41 = .ok (.istore_n 2, 1) := by decide +kernel
theorem dX7_test_42 : decode cX7_test 42 = .ok (.aload_n 0, 1) := by decide +kernel
theorem dX7_test_43 : decode cX7_test 43 = .ok (.invokevirtual 266, 3) := by decide +kernel
theorem dX7_test_46 : decode cX7_test 46 = .ok (.aload_n 0, 1) := by decide +kernel
theorem dX7_test_47 : decode cX7_test 47 = .ok (.iload_n 1, 1) := by decide +kernel
theorem dX7_test_48 : decode cX7_test 48 = .ok (.invokevirtual 276, 3) := by decide +kernel
theorem dX7_test_51 : decode cX7_test 51 = .ok (.ifCond .ne 5, 3) := by decide +kernel
theorem dX7_test_54 : decode cX7_test 54 = .ok (.iconst 0, 1) := by decide +kernel
theorem dX7_test_55 : decode cX7_test 55 = .ok (.ireturn, 1) := by decide +kernel
theorem dX7_test_56 : decode cX7_test 56 = .ok (.aload_n 0, 1) := by decide +kernel
theorem dX7_test_57 : decode cX7_test 57 = .ok (.iconst 2, 1) := by decide +kernel
theorem dX7_test_58 : decode cX7_test 58 = .ok (.iload_n 2, 1) := by decide +kernel
theorem dX7_test_59 : decode cX7_test 59 = .ok (.invokevirtual 269, 3) := by decide +kernel
theorem dX7_test_62 : decode cX7_test 62 = .ok (.iconst 1, 1) := by decide +kernel
theorem dX7_test_63 : decode cX7_test 63 = .ok (.ireturn, 1) := by decide +kernel
theorem dX7_sum_0 : decode cX7_sum 0 = .ok (.aload_n 0, 1) := by decide +kernel
theorem dX7_sum_1 : decode cX7_sum 1 = .ok (.iload_n 1, 1) := by decide +kernel
theorem dX7_sum_2 : decode cX7_sum 2 = .ok (.invokevirtual 279, 3) := by decide +kernel
theorem dX7_sum_5 : decode cX7_sum 5 = .ok (.ifCond .ne 5, 3) := by decide +kernel
theorem dX7_sum_8 : decode cX7_sum 8 = .ok (.iconst 0, 1) := by decide +kernel
theorem dX7_sum_9 : decode cX7_sum 9 = .ok (.ireturn, 1) := by decide +kernel
theorem dX7_sum_10 : decode cX7_sum 10 = .ok (.aload_n 0, 1) := by decide +kernel
theorem dX7_sum_11 : decode cX7_sum 11 = .ok (.bipush 43, 2) := by decide +kernel
theorem dX7_sum_13 : decode cX7_sum 13 = .ok (.invokevirtual 263, 3) := by decide +kernel
theorem dX7_sum_16 : decode cX7_sum 16 = .ok (.ifCond .ne 12, 3) := by decide +kernel
theorem dX7_sum_19 : decode cX7_sum 19 = .ok (.aload_n 0, 1) := by decide +kernel
theorem dX7_sum_20 : decode cX7_sum 20 = .ok (.bipush 45, 2) := by decide +kernel
theorem dX7_sum_22 : decode cX7_sum 22 = .ok (.invokevirtual 263, 3) := by decide +kernel
theorem dX7_sum_25 : decode cX7_sum 25 = .ok (.ifCond .eq 31, 3) := by decide +kernel
theorem dX7_sum_28 : decode cX7_sum 28 = .ok (.aload_n 0, 1) := by decide +kernel
theorem dX7_sum_29 : decode cX7_sum 29 = .ok (.getfield 237, 3) := by decide +kernel
theorem dX7_sum_32 : decode cX7_sum 32 = .ok (.istore_n 2, 1) := by decide +kernel
theorem dX7_sum_33 : decode cX7_sum 33 = .ok (.aload_n 0, 1) := by decide +kernel
theorem dX7_sum_34 : decode cX7_sum 34 = .ok (.invokevirtual 266, 3) := by decide +kernel
theorem dX7_sum_37 : decode cX7_sum 37 = .ok (.aload_n 0, 1) := by decide +kernel
theorem dX7_sum_38 : decode cX7_sum 38 = .ok (.iload_n 1, 1) := by decide +kernel
theorem dX7_sum_39 : decode cX7_sum 39 = .ok (.invokevirtual 279, 3) := by decide +kernel
theorem dX7_sum_42 : decode cX7_sum 42 = .ok (.ifCond .ne 5, 3) := by decide +kernel
theorem dX7_sum_45 : decode cX7_sum 45 = .ok (.iconst 0, 1) := by decide +kernel
theorem dX7_sum_46 : decode cX7_sum 46 = .ok (.ireturn, 1) := by decide +kernel
theorem dX7_sum_47 : decode cX7_sum 47 = .ok (.aload_n 0, 1) := by decide +kernel
theorem dX7_sum_48 : decode cX7_sum 48 = .ok (.iconst 2, 1) := by decide +kernel
theorem dX7_sum_49 : decode cX7_sum 49 = .ok (.iload_n 2, 1) := by decide +kernel
theorem dX7_sum_50 : decode cX7_sum 50 = .ok (.invokevirtual 269, 3) := by decide +kernel
theorem dX7_sum_53 : decode cX7_sum 53 = .ok (.goto (-43), 3) := by decide +kernel
theorem dX7_sum_56 : decode cX7_sum 56 = .ok (.iconst 1, 1) := by decide +kernel
theorem dX7_sum_57 : decode cX7_sum 57 = .ok (.ireturn, 1) := by decide +kernel
theorem dX7_term_0 : decode cX7_term 0 = .ok (.aload_n 0, 1) := by decide +kernel
theorem dX7_term_1 : decode cX7_term 1 = .ok (.iload_n 1, 1) := by decide +kernel
theorem dX7_term_2 : decode cX7_term 2 = .ok (.invokevirtual 282, 3) := by decide +kernel
theorem dX7_term_5 : decode cX7_term 5 = .ok (.ifCond .ne 5, 3) := by decide +kernel
theorem dX7_term_8 : decode cX7_term 8 = .ok (.iconst 0, 1) := by decide +kernel
theorem dX7_term_9 : decode cX7_term 9 = .ok (.ireturn, 1) := by decide +kernel
theorem dX7_term_10 : decode cX7_term 10 = .ok (.aload_n 0, 1) := by decide +kernel
theorem dX7_term_11 : decode cX7_term 11 = .ok (.bipush 42, 2) := by decide +kernel
theorem dX7_term_13 : decode cX7_term 13 = .ok (.invokevirtual 263, 3) := by decide +kernel
theorem dX7_term_16 : decode cX7_term 16 = .ok (.ifCond .ne 12, 3) := by decide +kernel
theorem dX7_term_19 : decode cX7_term 19 = .ok (.aload_n 0, 1) := by decide +kernel
theorem dX7_term_20 : decode cX7_term 20 = .ok (.bipush 47, 2) := by decide +kernel
theorem dX7_term_22 : decode cX7_term 22 = .ok (.invokevirtual 263, 3) := by decide +kernel
theorem dX7_term_25 : decode cX7_term 25 = .ok (.ifCond .eq 31, 3) := by decide +kernel
theorem dX7_term_28 : decode cX7_term 28 = .ok (.aload_n 0, 1) := by decide +kernel
theorem dX7_term_29 : decode cX7_term 29 = .ok (.getfield 237, 3) := by decide +kernel
theorem dX7_term_32 : decode cX7_term 32 = .ok (.istore_n 2, 1) := by decide +kernel
theorem dX7_term_33 : decode cX7_term 33 = .ok (.aload_n 0, 1) := by decide +kernel
theorem dX7_term_34 : decode cX7_term 34 = .ok (.invokevirtual 266, 3) := by decide +kernel
theorem dX7_term_37 : decode cX7_term 37 = .ok (.aload_n 0, 1) := by decide +kernel
theorem dX7_term_38 : decode cX7_term 38 = .ok (.iload_n 1, 1) := by decide +kernel
theorem dX7_term_39 : decode cX7_term 39 = .ok (.invokevirtual 282, 3) := by decide +kernel
theorem dX7_term_42 : decode cX7_term 42 = .ok (.ifCond .ne 5, 3) := by decide +kernel
theorem dX7_term_45 : decode cX7_term 45 = .ok (.iconst 0, 1) := by decide +kernel
theorem dX7_term_46 : decode cX7_term 46 = .ok (.ireturn, 1) := by decide +kernel
theorem dX7_term_47 : decode cX7_term 47 = .ok (.aload_n 0, 1) := by decide +kernel
theorem dX7_term_48 : decode cX7_term 48 = .ok (.iconst 2, 1) := by decide +kernel
theorem dX7_term_49 : decode cX7_term 49 = .ok (.iload_n 2, 1) := by decide +kernel
theorem dX7_term_50 : decode cX7_term 50 = .ok (.invokevirtual 269, 3) := by decide +kernel
theorem dX7_term_53 : decode cX7_term 53 = .ok (.goto (-43), 3) := by decide +kernel
theorem dX7_term_56 : decode cX7_term 56 = .ok (.iconst 1, 1) := by decide +kernel
theorem dX7_term_57 : decode cX7_term 57 = .ok (.ireturn, 1) := by decide +kernel
theorem dX7_part0_0 : decode cX7_part0 0 = .ok (.aload_n 0, 1) := by decide +kernel
theorem dX7_part0_1 : decode cX7_part0 1 = .ok (.getfield 228, 3) := by decide +kernel
theorem dX7_part0_4 : decode cX7_part0 4 = .ok (.iconst 2, 1) := by decide +kernel
theorem dX7_part0_5 : decode cX7_part0 5 = .ok (.if_icmp .ne 28, 3) := by decide +kernel
theorem dX7_part0_8 : decode cX7_part0 8 = .ok (.aload_n 0, 1) := by decide +kernel
theorem dX7_part0_9 : decode cX7_part0 9 = .ok (.iconst 0, 1) := by decide +kernel
theorem dX7_part0_10 : decode cX7_part0 10 = .ok (.aload_n 0, 1) := by decide +kernel
theorem dX7_part0_11 : decode cX7_part0 11 = .ok (.getfield 243, 3) := by decide +kernel
theorem dX7_part0_14 : decode cX7_part0 14 = .ok (.invokevirtual 269, 3) := by decide +kernel
theorem dX7_part0_17 : decode cX7_part0 17 = .ok (.aload_n 0, 1) := by decide +kernel
theorem dX7_part0_18 : decode cX7_part0 18 = .ok (.dup, 1) := by decide +kernel
theorem dX7_part0_19 : decode cX7_part0 19 = .ok (.getfield 285, 3) := by decide +kernel
theorem dX7_part0_22 : decode cX7_part0 22 = .ok (.iconst 1, 1) := by decide +kernel
theorem dX7_part0_23 : decode cX7_part0 23 = .ok (.iadd, 1) := by decide +kernel
theorem dX7_part0_24 : decode cX7_part0 24 = .ok (.putfield 285, 3) := by decide +kernel
theorem dX7_part0_27 : decode cX7_part0 27 = .ok (.aload_n 0, 1) := by decide +kernel
theorem dX7_part0_28 : decode cX7_part0 28 = .ok (.invokevirtual 266, 3) := by decide +kernel
theorem dX7_part0_31 : decode cX7_part0 31 = .ok (.iconst 1, 1) := by decide +kernel
theorem dX7_part0_32 : decode cX7_part0 32 = .ok (.ireturn, 1) := by decide +kernel
theorem dX7_part0_33 : decode cX7_part0 33 = .ok (.aload_n 0, 1) := by decide +kernel
theorem dX7_part0_34 : decode cX7_part0 34 = .ok (.getfield 228, 3) := by decide +kernel
theorem dX7_part0_37 : decode cX7_part0 37 = .ok (.iconst 1, 1) := by decide +kernel
theorem dX7_part0_38 : decode cX7_part0 38 = .ok (.if_icmp .ne 46, 3) := by decide +kernel
theorem dX7_part0_41 : decode cX7_part0 41 = .ok (.aload_n 0, 1) := by decide +kernel
theorem dX7_part0_42 : decode cX7_part0 42 = .ok (.getfield 237, 3) := by decide +kernel
theorem dX7_part0_45 : decode cX7_part0 45 = .ok (.ifCond .eq 39, 3) := by decide +kernel
theorem dX7_part0_48 : decode cX7_part0 48 = .ok (.iload_n 1, 1) := by decide +kernel
theorem dX7_part0_49 : decode cX7_part0 49 = .ok (.aload_n 0, 1) := by decide +kernel
theorem dX7_part0_50 : decode cX7_part0 50 = .ok (.getfield 237, 3) := by decide +kernel
theorem dX7_part0_53 : decode cX7_part0 53 = .ok (.invokestatic 288, 3) := by decide +kernel
theorem dX7_part0_56 : decode cX7_part0 56 = .ok (.ifCond .eq 28, 3) := by decide +kernel
theorem dX7_part0_59 : decode cX7_part0 59 = .ok (.aload_n 0, 1) := by decide +kernel
theorem dX7_part0_60 : decode cX7_part0 60 = .ok (.iconst 1, 1) := by decide +kernel
theorem dX7_part0_61 : decode cX7_part0 61 = .ok (.aload_n 0, 1) := by decide +kernel
theorem dX7_part0_62 : decode cX7_part0 62 = .ok (.getfield 237, 3) := by decide +kernel
theorem dX7_part0_65 : decode cX7_part0 65 = .ok (.invokevirtual 269, 3) := by decide +kernel
theorem dX7_part0_68 : decode cX7_part0 68 = .ok (.aload_n 0, 1) := by decide +kernel
theorem dX7_part0_69 : decode cX7_part0 69 = .ok (.dup, 1) := by decide +kernel
theorem dX7_part0_70 : decode cX7_part0 70 = .ok (.getfield 285, 3) := by decide +kernel
theorem dX7_part0_73 : decode cX7_part0 73 = .ok (.iconst 1, 1) := by decide +kernel
theorem dX7_part0_74 : decode cX7_part0 74 = .ok (.iadd, 1) := by decide +kernel
theorem dX7_part0_75 : decode cX7_part0 75 = .ok (.putfield 285, 3) := by decide +kernel
theorem dX7_part0_78 : decode cX7_part0 78 = .ok (.aload_n 0, 1) := by decide +kernel
theorem dX7_part0_79 : decode cX7_part0 79 = .ok (.invokevirtual 266, 3) := by decide +kernel
theorem dX7_part0_82 : decode cX7_part0 82 = .ok (.iconst 1, 1) := by decide +kernel
theorem dX7_part0_83 : decode cX7_part0 83 = .ok (.ireturn, 1) := by decide +kernel
theorem dX7_part0_84 : decode cX7_part0 84 = .ok (.aload_n 0, 1) := by decide +kernel
theorem dX7_part0_85 : decode cX7_part0 85 = .ok (.bipush 33, 2) := by decide +kernel
theorem dX7_part0_87 : decode cX7_part0 87 = .ok (.invokevirtual 263, 3) := by decide +kernel
theorem dX7_part0_90 : decode cX7_part0 90 = .ok (.ifCond .eq 55, 3) := by decide +kernel
theorem dX7_part0_93 : decode cX7_part0 93 = .ok (.aload_n 0, 1) := by decide +kernel
theorem dX7_part0_94 : decode cX7_part0 94 = .ok (.getfield 291, 3) := by decide +kernel
theorem dX7_part0_97 : decode cX7_part0 97 = .ok (.bipush 8, 2) := by decide +kernel
theorem dX7_part0_99 : decode cX7_part0 99 = .ok (.if_icmp .ge 46, 3) := by decide +kernel
theorem dX7_part0_102 : decode cX7_part0 102 = .ok (.aload_n 0, 1) := by decide +kernel
theorem dX7_part0_103 : decode cX7_part0 103 = .ok (.dup, 1) := by decide +kernel
theorem dX7_part0_104 : decode cX7_part0 104 = .ok (.getfield 291, 3) := by decide +kernel
theorem dX7_part0_107 : decode cX7_part0 107 = .ok (.iconst 1, 1) := by decide +kernel
theorem dX7_part0_108 : decode cX7_part0 108 = .ok (.iadd, 1) := by decide +kernel
theorem dX7_part0_109 : decode cX7_part0 109 = .ok (.putfield 291, 3) := by decide +kernel
theorem dX7_part0_112 : decode cX7_part0 112 = .ok (.aload_n 0, 1) := by decide +kernel
theorem dX7_part0_113 : decode cX7_part0 113 = .ok (.invokevirtual 266, 3) := by decide +kernel
theorem dX7_part0_116 : decode cX7_part0 116 = .ok (.aload_n 0, 1) := by decide +kernel
theorem dX7_part0_117 : decode cX7_part0 117 = .ok (.iload_n 1, 1) := by decide +kernel
theorem dX7_part0_118 : decode cX7_part0 118 = .ok (.invokevirtual 282, 3) := by decide +kernel
theorem dX7_part0_121 : decode cX7_part0 121 = .ok (.ifCond .ne 5, 3) := by decide +kernel
theorem dX7_part0_124 : decode cX7_part0 124 = .ok (.iconst 0, 1) := by decide +kernel
theorem dX7_part0_125 : decode cX7_part0 125 = .ok (.ireturn, 1) := by decide +kernel
theorem dX7_part0_126 : decode cX7_part0 126 = .ok (.aload_n 0, 1) := by decide +kernel
theorem dX7_part0_127 : decode cX7_part0 127 = .ok (.dup, 1) := by decide +kernel
theorem dX7_part0_128 : decode cX7_part0 128 = .ok (.getfield 291, 3) := by decide +kernel
theorem dX7_part0_131 : decode cX7_part0 131 = .ok (.iconst 1, 1) := by decide +kernel
theorem dX7_part0_132 : decode cX7_part0 132 = .ok (.isub, 1) := by decide +kernel
theorem dX7_part0_133 : decode cX7_part0 133 = .ok (.putfield 291, 3) := by decide +kernel
theorem dX7_part0_136 : decode cX7_part0 136 = .ok (.aload_n 0, 1) := by decide +kernel
theorem dX7_part0_137 : decode cX7_part0 137 = .ok (.iconst 2, 1) := by decide +kernel
theorem dX7_part0_138 : decode cX7_part0 138 = .ok (.bipush 33, 2) := by decide +kernel
theorem dX7_part0_140 : decode cX7_part0 140 = .ok (.invokevirtual 269, 3) := by decide +kernel
theorem dX7_part0_143 : decode cX7_part0 143 = .ok (.iconst 1, 1) := by decide +kernel
theorem dX7_part0_144 : decode cX7_part0 144 = .ok (.ireturn, 1) := by decide +kernel
theorem dX7_part0_145 : decode cX7_part0 145 = .ok (.aload_n 0, 1) := by decide +kernel
theorem dX7_part0_146 : decode cX7_part0 146 = .ok (.bipush 40, 2) := by decide +kernel
theorem dX7_part0_148 : decode cX7_part0 148 = .ok (.invokevirtual 263, 3) := by decide +kernel
theorem dX7_part0_151 : decode cX7_part0 151 = .ok (.ifCond .eq 12, 3) := by decide +kernel
theorem dX7_part0_154 : decode cX7_part0 154 = .ok (.aload_n 0, 1) := by decide +kernel
theorem dX7_part0_155 : decode cX7_part0 155 = .ok (.getfield 294, 3) := by decide +kernel
theorem dX7_part0_158 : decode cX7_part0 158 = .ok (.bipush 8, 2) := by decide +kernel
theorem dX7_part0_160 : decode cX7_part0 160 = .ok (.if_icmp .ne 5, 3) := by decide +kernel
theorem dX7_part0_163 : decode cX7_part0 163 = .ok (.iconst 0, 1) := by decide +kernel
theorem dX7_part0_164 : decode cX7_part0 164 = .ok (.ireturn, 1) := by decide +kernel
theorem dX7_part0_165 : decode cX7_part0 165 = .ok (.aload_n 0, 1) := by decide +kernel
theorem dX7_part0_166 : decode cX7_part0 166 = .ok (.dup, 1) := by decide +kernel
theorem dX7_part0_167 : decode cX7_part0 167 = .ok (.getfield 294, 3) := by decide +kernel
theorem dX7_part0_170 : decode cX7_part0 170 = .ok (.iconst 1, 1) := by decide +kernel
theorem dX7_part0_171 : decode cX7_part0 171 = .ok (.iadd, 1) := by decide +kernel
theorem dX7_part0_172 : decode cX7_part0 172 = .ok (.putfield 294, 3) := by decide +kernel
theorem dX7_part0_175 : decode cX7_part0 175 = .ok (.aload_n 0, 1) := by decide +kernel
theorem dX7_part0_176 : decode cX7_part0 176 = .ok (.invokevirtual 266, 3) := by decide +kernel
theorem dX7_part0_179 : decode cX7_part0 179 = .ok (.aload_n 0, 1) := by decide +kernel
theorem dX7_part0_180 : decode cX7_part0 180 = .ok (.iload_n 1, 1) := by decide +kernel
theorem dX7_part0_181 : decode cX7_part0 181 = .ok (.invokevirtual 297, 3) := by decide +kernel
theorem dX7_part0_184 : decode cX7_part0 184 = .ok (.ifCond .eq 12, 3) := by decide +kernel
theorem dX7_part0_187 : decode cX7_part0 187 = .ok (.aload_n 0, 1) := by decide +kernel
theorem dX7_part0_188 : decode cX7_part0 188 = .ok (.bipush 41, 2) := by decide +kernel
theorem dX7_part0_190 : decode cX7_part0 190 = .ok (.invokevirtual 263, 3) := by decide +kernel
theorem dX7_part0_193 : decode cX7_part0 193 = .ok (.ifCond .ne 5, 3) := by decide +kernel
theorem dX7_part0_196 : decode cX7_part0 196 = .ok (.iconst 0, 1) := by decide +kernel
theorem dX7_part0_197 : decode cX7_part0 197 = .ok (.ireturn, 1) := by decide +kernel
theorem dX7_part0_198 : decode cX7_part0 198 = .ok (.aload_n 0, 1) := by decide +kernel
theorem dX7_part0_199 : decode cX7_part0 199 = .ok (.dup, 1) := by decide +kernel
theorem dX7_part0_200 : decode cX7_part0 200 = .ok (.getfield 294, 3) := by decide +kernel
theorem dX7_part0_203 : decode cX7_part0 203 = .ok (.iconst 1, 1) := by decide +kernel
theorem dX7_part0_204 : decode cX7_part0 204 = .ok (.isub, 1) := by decide +kernel
theorem dX7_part0_205 : decode cX7_part0 205 = .ok (.putfield 294, 3) := by decide +kernel
theorem dX7_part0_208 : decode cX7_part0 208 = .ok (.aload_n 0, 1) := by decide +kernel
theorem dX7_part0_209 : decode cX7_part0 209 = .ok (.invokevirtual 266, 3) := by decide +kernel
theorem dX7_part0_212 : decode cX7_part0 212 = .ok (.iconst 1, 1) := by decide +kernel
theorem dX7_part0_213 : decode cX7_part0 213 = .ok (.ireturn, 1) := by decide +kernel
theorem dX7_parse_0 : decode cX7_parse 0 = .ok (.aload_n 0, 1) := by decide +kernel
theorem dX7_parse_1 : decode cX7_parse 1 = .ok (.iconst 0, 1) := by decide +kernel
theorem dX7_parse_2 : decode cX7_parse 2 = .ok (.putfield 225, 3) := by decide +kernel
theorem dX7_parse_5 : decode cX7_parse 5 = .ok (.aload_n 0, 1) := by decide +kernel
theorem dX7_parse_6 : decode cX7_parse 6 = .ok (.iconst 3, 1) := by decide +kernel
theorem dX7_parse_7 : decode cX7_parse 7 = .ok (.putfield 228, 3) := by decide +kernel
theorem dX7_parse_10 : decode cX7_parse 10 = .ok (.aload_n 0, 1) := by decide +kernel
theorem dX7_parse_11 : decode cX7_parse 11 = .ok (.iconst 0, 1) := by decide +kernel
theorem dX7_parse_12 : decode cX7_parse 12 = .ok (.putfield 294, 3) := by decide +kernel
theorem dX7_parse_15 : decode cX7_parse 15 = .ok (.aload_n 0, 1) := by decide +kernel
theorem dX7_parse_16 : decode cX7_parse 16 = .ok (.iconst 0, 1) := by decide +kernel
theorem dX7_parse_17 : decode cX7_parse 17 = .ok (.putfield 291, 3) := by decide +kernel
theorem dX7_parse_20 : decode cX7_parse 20 = .ok (.aload_n 0, 1) := by decide +kernel
theorem dX7_parse_21 : decode cX7_parse 21 = .ok (.iconst 0, 1) := by decide +kernel
theorem dX7_parse_22 : decode cX7_parse 22 = .ok (.putfield 257, 3) := by decide +kernel
theorem dX7_parse_25 : decode cX7_parse 25 = .ok (.aload_n 0, 1) := by decide +kernel
theorem dX7_parse_26 : decode cX7_parse 26 = .ok (.iconst 0, 1) := by decide +kernel
theorem dX7_parse_27 : decode cX7_parse 27 = .ok (.putfield 285, 3) := by decide +kernel
theorem dX7_parse_30 : decode cX7_parse 30 = .ok (.aload_n 0, 1) := by decide +kernel
theorem dX7_parse_31 : decode cX7_parse 31 = .ok (.aload_n 0, 1) := by decide +kernel
theorem dX7_parse_32 : decode cX7_parse 32 = .ok (.getfield 7, 3) := by decide +kernel
theorem dX7_parse_35 : decode cX7_parse 35 = .ok (.iconst 1, 1) := by decide +kernel
theorem dX7_parse_36 : decode cX7_parse 36 = .ok (.iaload, 1) := by decide +kernel
theorem dX7_parse_37 : decode cX7_parse 37 = .ok (.bipush 14, 2) := by decide +kernel
theorem dX7_parse_39 : decode cX7_parse 39 = .ok (.if_icmp .ge 18, 3) := by decide +kernel
theorem dX7_parse_42 : decode cX7_parse 42 = .ok (.aload_n 0, 1) := by decide +kernel
theorem dX7_parse_43 : decode cX7_parse 43 = .ok (.aload_n 0, 1) := by decide +kernel
theorem dX7_parse_44 : decode cX7_parse 44 = .ok (.getfield 7, 3) := by decide +kernel
theorem dX7_parse_47 : decode cX7_parse 47 = .ok (.iconst 1, 1) := by decide +kernel
theorem dX7_parse_48 : decode cX7_parse 48 = .ok (.iaload, 1) := by decide +kernel
theorem dX7_parse_49 : decode cX7_parse 49 = .ok (.invokevirtual 300, 3) := by decide +kernel
theorem dX7_parse_52 : decode cX7_parse 52 = .ok (.iconst 4, 1) := by decide +kernel
theorem dX7_parse_53 : decode cX7_parse 53 = .ok (.iadd, 1) := by decide +kernel
theorem dX7_parse_54 : decode cX7_parse 54 = .ok (.goto 6, 3) := by decide +kernel
theorem dX7_parse_57 : decode cX7_parse 57 = .ok (.sipush 2878, 3) := by decide +kernel
theorem dX7_parse_60 : decode cX7_parse 60 = .ok (.putfield 254, 3) := by decide +kernel
theorem dX7_parse_63 : decode cX7_parse 63 = .ok (.aload_n 0, 1) := by decide +kernel
theorem dX7_parse_64 : decode cX7_parse 64 = .ok (.invokevirtual 266, 3) := by decide +kernel
theorem dX7_parse_67 : decode cX7_parse 67 = .ok (.aload_n 0, 1) := by decide +kernel
theorem dX7_parse_68 : decode cX7_parse 68 = .ok (.invokevirtual 303, 3) := by decide +kernel
theorem dX7_parse_71 : decode cX7_parse 71 = .ok (.istore_n 1, 1) := by decide +kernel
theorem dX7_parse_72 : decode cX7_parse 72 = .ok (.iload_n 1, 1) := by decide +kernel
theorem dX7_parse_73 : decode cX7_parse 73 = .ok (.ifCond .lt 7, 3) := by decide +kernel
theorem dX7_parse_76 : decode cX7_parse 76 = .ok (.iconst 1, 1) := by decide +kernel
theorem dX7_parse_77 : decode cX7_parse 77 = .ok (.goto 4, 3) := by decide +kernel
theorem dX7_parse_80 : decode cX7_parse 80 = .ok (.iconst 0, 1) := by decide +kernel
theorem dX7_parse_81 : decode cX7_parse 81 = .ok (.istore_n 2, 1) := by decide +kernel
theorem dX7_parse_82 : decode cX7_parse 82 = .ok (.iload_n 2, 1) := by decide +kernel
theorem dX7_parse_83 : decode cX7_parse 83 = .ok (.ifCond .eq 28, 3) := by decide +kernel
theorem dX7_parse_86 : decode cX7_parse 86 = .ok (.aload_n 0, 1) := by decide +kernel
theorem dX7_parse_87 : decode cX7_parse 87 = .ok (.invokevirtual 266, 3) := by decide +kernel
theorem dX7_parse_90 : decode cX7_parse 90 = .ok (.aload_n 0, 1) := by decide +kernel
theorem dX7_parse_91 : decode cX7_parse 91 = .ok (.iload_n 1, 1) := by decide +kernel
theorem dX7_parse_92 : decode cX7_parse 92 = .ok (.invokevirtual 297, 3) := by decide +kernel
theorem dX7_parse_95 : decode cX7_parse 95 = .ok (.ifCond .eq 14, 3) := by decide +kernel
theorem dX7_parse_98 : decode cX7_parse 98 = .ok (.aload_n 0, 1) := by decide +kernel
theorem dX7_parse_99 : decode cX7_parse 99 = .ok (.getfield 228, 3) := by decide +kernel
theorem dX7_parse_102 : decode cX7_parse 102 = .ok (.ifCond .ne 7, 3) := by decide +kernel
theorem dX7_parse_105 : decode cX7_parse 105 = .ok (.iconst 1, 1) := by decide +kernel
theorem dX7_parse_106 : decode cX7_parse 106 = .ok (.goto 4, 3) := by decide +kernel
theorem dX7_parse_109 : decode cX7_parse 109 = .ok (.iconst 0, 1) := by decide +kernel
theorem dX7_parse_110 : decode cX7_parse 110 = .ok (.istore_n 2, 1) := by decide +kernel
theorem dX7_parse_111 : decode cX7_parse 111 = .ok (.aload_n 0, 1) := by decide +kernel
theorem dX7_parse_112 : decode cX7_parse 112 = .ok (.iconst 0, 1) := by decide +kernel
theorem dX7_parse_113 : decode cX7_parse 113 = .ok (.putfield 213, 3) := by decide +kernel
theorem dX7_parse_116 : decode cX7_parse 116 = .ok (.iload_n 2, 1) := by decide +kernel
theorem dX7_parse_117 : decode cX7_parse 117 = .ok (.ifCond .eq 7, 3) := by decide +kernel
theorem dX7_parse_120 : decode cX7_parse 120 = .ok (.iload_n 1, 1) := by decide +kernel
theorem dX7_parse_121 : decode cX7_parse 121 = .ok (.goto 4, 3) := by decide +kernel
theorem dX7_parse_124 : decode cX7_parse 124 = .ok (.iconst (-1), 1) := by decide +kernel
theorem dX7_parse_125 : decode cX7_parse 125 = .ok (.ireturn, 1) := by decide +kernel
theorem dX7_text_0 : decode cX7_text 0 = .ok (.aload_n 0, 1) := by decide +kernel
theorem dX7_text_1 : decode cX7_text 1 = .ok (.invokevirtual 306, 3) := by decide +kernel
theorem dX7_text_4 : decode cX7_text 4 = .ok (.istore_n 1, 1) := by decide +kernel
theorem dX7_text_5 : decode cX7_text 5 = .ok (.iload_n 1, 1) := by decide +kernel
theorem dX7_text_6 : decode cX7_text 6 = .ok (.ifCond .ge 11, 3) := by decide +kernel
theorem dX7_text_9 : decode cX7_text 9 = .ok (.bipush (-100), 2) := by decide +kernel
theorem dX7_text_11 : decode cX7_text 11 = .ok (.aload_n 0, 1) := by decide +kernel
theorem dX7_text_12 : decode cX7_text 12 = .ok (.getfield 231, 3) := by decide +kernel
theorem dX7_text_15 : decode cX7_text 15 = .ok (.isub, 1) := by decide +kernel
theorem dX7_text_16 : decode cX7_text 16 = .ok (.ireturn, 1) := by decide +kernel
theorem dX7_text_17 : decode cX7_text 17 = .ok (.aload_n 0, 1) := by decide +kernel
theorem dX7_text_18 : decode cX7_text 18 = .ok (.getfield 7, 3) := by decide +kernel
theorem dX7_text_21 : decode cX7_text 21 = .ok (.iconst 1, 1) := by decide +kernel
theorem dX7_text_22 : decode cX7_text 22 = .ok (.iaload, 1) := by decide +kernel
theorem dX7_text_23 : decode cX7_text 23 = .ok (.bipush 14, 2) := by decide +kernel
theorem dX7_text_25 : decode cX7_text 25 = .ok (.if_icmp .ne 6, 3) := by decide +kernel
theorem dX7_text_28 : decode cX7_text 28 = .ok (.ldc 88, 2) := by decide +kernel
theorem dX7_text_30 : decode cX7_text 30 = .ok (.ireturn, 1) := by decide +kernel
theorem dX7_text_31 : decode cX7_text 31 = .ok (.aload_n 0, 1) := by decide +kernel
theorem dX7_text_32 : decode cX7_text 32 = .ok (.aload_n 0, 1) := by decide +kernel
theorem dX7_text_33 : decode cX7_text 33 = .ok (.getfield 7, 3) := by decide +kernel
theorem dX7_text_36 : decode cX7_text 36 = .ok (.iconst 1, 1) := by decide +kernel
theorem dX7_text_37 : decode cX7_text 37 = .ok (.iaload, 1) := by decide +kernel
theorem dX7_text_38 : decode cX7_text 38 = .ok (.invokevirtual 300, 3) := by decide +kernel
theorem dX7_text_41 : decode cX7_text 41 = .ok (.istore_n 2, 1) := by decide +kernel
theorem dX7_text_42 : decode cX7_text 42 = .ok (.aload_n 0, 1) := by decide +kernel
theorem dX7_text_43 : decode cX7_text 43 = .ok (.getfield 7, 3) := by decide +kernel
theorem dX7_text_46 : decode cX7_text 46 = .ok (.iload_n 2, 1) := by decide +kernel
theorem dX7_text_47 : decode cX7_text 47 = .ok (.iconst 0, 1) := by decide +kernel
theorem dX7_text_48 : decode cX7_text 48 = .ok (.iadd, 1) := by decide +kernel
theorem dX7_text_49 : decode cX7_text 49 = .ok (.iload_n 1, 1) := by decide +kernel
theorem dX7_text_50 : decode cX7_text 50 = .ok (.iastore, 1) := by decide +kernel
theorem dX7_text_51 : decode cX7_text 51 = .ok (.aload_n 0, 1) := by decide +kernel
theorem dX7_text_52 : decode cX7_text 52 = .ok (.getfield 7, 3) := by decide +kernel
theorem dX7_text_55 : decode cX7_text 55 = .ok (.iload_n 2, 1) := by decide +kernel
theorem dX7_text_56 : decode cX7_text 56 = .ok (.iconst 1, 1) := by decide +kernel
theorem dX7_text_57 : decode cX7_text 57 = .ok (.iadd, 1) := by decide +kernel
theorem dX7_text_58 : decode cX7_text 58 = .ok (.aload_n 0, 1) := by decide +kernel
theorem dX7_text_59 : decode cX7_text 59 = .ok (.getfield 285, 3) := by decide +kernel
theorem dX7_text_62 : decode cX7_text 62 = .ok (.iastore, 1) := by decide +kernel
theorem dX7_text_63 : decode cX7_text 63 = .ok (.aload_n 0, 1) := by decide +kernel
theorem dX7_text_64 : decode cX7_text 64 = .ok (.getfield 7, 3) := by decide +kernel
theorem dX7_text_67 : decode cX7_text 67 = .ok (.iload_n 2, 1) := by decide +kernel
theorem dX7_text_68 : decode cX7_text 68 = .ok (.iconst 2, 1) := by decide +kernel
theorem dX7_text_69 : decode cX7_text 69 = .ok (.iadd, 1) := by decide +kernel
theorem dX7_text_70 : decode cX7_text 70 = .ok (.aload_n 0, 1) := by decide +kernel
theorem dX7_text_71 : decode cX7_text 71 = .ok (.getfield 257, 3) := by decide +kernel
theorem dX7_text_74 : decode cX7_text 74 = .ok (.iastore, 1) := by decide +kernel
theorem dX7_text_75 : decode cX7_text 75 = .ok (.aload_n 0, 1) := by decide +kernel
theorem dX7_text_76 : decode cX7_text 76 = .ok (.getfield 7, 3) := by decide +kernel
theorem dX7_text_79 : decode cX7_text 79 = .ok (.iconst 1, 1) := by decide +kernel
theorem dX7_text_80 : decode cX7_text 80 = .ok (.dup2, 1) := by decide +kernel
theorem dX7_text_81 : decode cX7_text 81 = .ok (.iaload, 1) := by decide +kernel
theorem dX7_text_82 : decode cX7_text 82 = .ok (.iconst 1, 1) := by decide +kernel
theorem dX7_text_83 : decode cX7_text 83 = .ok (.iadd, 1) := by decide +kernel
theorem dX7_text_84 : decode cX7_text 84 = .ok (.iastore, 1) := by decide +kernel
theorem dX7_text_85 : decode cX7_text 85 = .ok (.aload_n 0, 1) := by decide +kernel
theorem dX7_text_86 : decode cX7_text 86 = .ok (.getfield 7, 3) := by decide +kernel
theorem dX7_text_89 : decode cX7_text 89 = .ok (.iconst 1, 1) := by decide +kernel
theorem dX7_text_90 : decode cX7_text 90 = .ok (.iaload, 1) := by decide +kernel
theorem dX7_text_91 : decode cX7_text 91 = .ok (.iconst 1, 1) := by decide +kernel
theorem dX7_text_92 : decode cX7_text 92 = .ok (.isub, 1) := by decide +kernel
theorem dX7_text_93 : decode cX7_text 93 = .ok (.ireturn, 1) := by decide +kernel
theorem dX7_textTold_0 : decode cX7_textTold 0 = .ok (.aload_n 0, 1) := by decide +kernel
theorem dX7_textTold_1 : decode cX7_textTold 1 = .ok (.iload_n 1, 1) := by decide +kernel
theorem dX7_textTold_2 : decode cX7_textTold 2 = .ok (.invokevirtual 309, 3) := by decide +kernel
theorem dX7_textTold_5 : decode cX7_textTold 5 = .ok (.ifCond .eq 13, 3) := by decide +kernel
theorem dX7_textTold_8 : decode cX7_textTold 8 = .ok (.iload_n 2, 1) := by decide +kernel
theorem dX7_textTold_9 : decode cX7_textTold 9 = .ok (.i2l, 1) := by decide +kernel
theorem dX7_textTold_10 : decode cX7_textTold 10 = .ok (.lconst 0, 1) := by decide +kernel
theorem dX7_textTold_11 : decode cX7_textTold 11 = .ok (.lconst 1, 1) := by decide +kernel
theorem dX7_textTold_12 : decode cX7_textTold 12 = .ok (.invokestatic 68, 3) := by decide +kernel
theorem dX7_textTold_15 : decode cX7_textTold 15 = .ok (.ifCond .ne 6, 3) := by decide +kernel
theorem dX7_textTold_18 : decode cX7_textTold 18 = .ok (.ldc 87, 2) := by decide +kernel
theorem dX7_textTold_20 : decode cX7_textTold 20 = .ok (.ireturn, 1) := by decide +kernel
theorem dX7_textTold_21 : decode cX7_textTold 21 = .ok (.aload_n 0, 1) := by decide +kernel
theorem dX7_textTold_22 : decode cX7_textTold 22 = .ok (.getfield 7, 3) := by decide +kernel
theorem dX7_textTold_25 : decode cX7_textTold 25 = .ok (.aload_n 0, 1) := by decide +kernel
theorem dX7_textTold_26 : decode cX7_textTold 26 = .ok (.iload_n 1, 1) := by decide +kernel
theorem dX7_textTold_27 : decode cX7_textTold 27 = .ok (.invokevirtual 300, 3) := by decide +kernel
theorem dX7_textTold_30 : decode cX7_textTold 30 = .ok (.iload_n 2, 1) := by decide +kernel
theorem dX7_textTold_31 : decode cX7_textTold 31 = .ok (.iadd, 1) := by decide +kernel
theorem dX7_textTold_32 : decode cX7_textTold 32 = .ok (.iaload, 1) := by decide +kernel
theorem dX7_textTold_33 : decode cX7_textTold 33 = .ok (.ireturn, 1) := by decide +kernel
theorem dX7_counts_0 : decode cX7_counts 0 = .ok (.iconst (-1), 1) := by decide +kernel
theorem dX7_counts_1 : decode cX7_counts 1 = .ok (.istore_n 2, 1) := by decide +kernel
theorem dX7_counts_2 : decode cX7_counts 2 = .ok (.iconst 0, 1) := by decide +kernel
theorem dX7_counts_3 : decode cX7_counts 3 = .ok (.istore_n 3, 1) := by decide +kernel
theorem dX7_counts_4 : decode cX7_counts 4 = .ok (.iload_n 3, 1) := by decide +kernel
theorem dX7_counts_5 : decode cX7_counts 5 = .ok (.aload_n 0, 1) := by decide +kernel
theorem dX7_counts_6 : decode cX7_counts 6 = .ok (.getfield 7, 3) := by decide +kernel
theorem dX7_counts_9 : decode cX7_counts 9 = .ok (.iconst 1, 1) := by decide +kernel
theorem dX7_counts_10 : decode cX7_counts 10 = .ok (.iaload, 1) := by decide +kernel
theorem dX7_counts_11 : decode cX7_counts 11 = .ok (.if_icmp .ge 29, 3) := by decide +kernel
theorem dX7_counts_14 : decode cX7_counts 14 = .ok (.aload_n 0, 1) := by decide +kernel
theorem dX7_counts_15 : decode cX7_counts 15 = .ok (.getfield 7, 3) := by decide +kernel
theorem dX7_counts_18 : decode cX7_counts 18 = .ok (.aload_n 0, 1) := by decide +kernel
theorem dX7_counts_19 : decode cX7_counts 19 = .ok (.iload_n 3, 1) := by decide +kernel
theorem dX7_counts_20 : decode cX7_counts 20 = .ok (.invokevirtual 300, 3) := by decide +kernel
theorem dX7_counts_23 : decode cX7_counts 23 = .ok (.iaload, 1) := by decide +kernel
theorem dX7_counts_24 : decode cX7_counts 24 = .ok (.iload_n 1, 1) := by decide +kernel
theorem dX7_counts_25 : decode cX7_counts 25 = .ok (.if_icmp .ne 7, 3) := by decide +kernel
theorem dX7_counts_28 : decode cX7_counts 28 = .ok (.iload_n 3, 1) := by decide +kernel
theorem dX7_counts_29 : decode cX7_counts 29 = .ok (.goto 4, 3) := by decide +kernel
theorem dX7_counts_32 : decode cX7_counts 32 = .ok (.iload_n 2, 1) := by decide +kernel
theorem dX7_counts_33 : decode cX7_counts 33 = .ok (.istore_n 2, 1) := by decide +kernel
theorem dX7_counts_34 : decode cX7_counts 34 = .ok (.iinc 3 1, 3) := by decide +kernel
theorem dX7_counts_37 : decode cX7_counts 37 = .ok (.goto (-33), 3) := by decide +kernel
theorem dX7_counts_40 : decode cX7_counts 40 = .ok (.iload_n 2, 1) := by decide +kernel
theorem dX7_counts_41 : decode cX7_counts 41 = .ok (.ireturn, 1) := by decide +kernel
theorem dX7_why_0 : decode cX7_why 0 = .ok (.iload_n 1, 1) := by decide +kernel
theorem dX7_why_1 : decode cX7_why 1 = .ok (.i2l, 1) := by decide +kernel
theorem dX7_why_2 : decode cX7_why 2 = .ok (.lconst 0, 1) := by decide +kernel
theorem dX7_why_3 : decode cX7_why 3 = .ok (.ldc2_w 135, 3) := by decide +kernel
theorem dX7_why_6 : decode cX7_why 6 = .ok (.invokestatic 68, 3) := by decide +kernel
theorem dX7_why_9 : decode cX7_why 9 = .ok (.ifCond .eq 14, 3) := by decide +kernel
theorem dX7_why_12 : decode cX7_why 12 = .ok (.aload_n 0, 1) := by decide +kernel
theorem dX7_why_13 : decode cX7_why 13 = .ok (.iload_n 1, 1) := by decide +kernel
theorem dX7_why_14 : decode cX7_why 14 = .ok (.invokevirtual 93, 3) := by decide +kernel
theorem dX7_why_17 : decode cX7_why 17 = .ok (.invokestatic 175, 3) := by decide +kernel
theorem dX7_why_20 : decode cX7_why 20 = .ok (.goto 5, 3) := by decide +kernel
theorem dX7_why_23 : decode cX7_why 23 = .ok (.ldc 87, 2) := by decide +kernel
theorem dX7_why_25 : decode cX7_why 25 = .ok (.ireturn, 1) := by decide +kernel
theorem dX7_joined_0 : decode cX7_joined 0 = .ok (.iload_n 0, 1) := by decide +kernel
theorem dX7_joined_1 : decode cX7_joined 1 = .ok (.tableswitch 196 38 62 #[182, 196, 196, 196, 123, 115, 196, 119, 196, 127, 196, 196, 196, 196, 196, 196, 196, 196, 196, 196, 196, 196, 149, 171, 160], 115) := by decide +kernel
theorem dX7_joined_116 : decode cX7_joined 116 = .ok (.iload_n 1, 1) := by decide +kernel
theorem dX7_joined_117 : decode cX7_joined 117 = .ok (.iload_n 2, 1) := by decide +kernel
theorem dX7_joined_118 : decode cX7_joined 118 = .ok (.iadd, 1) := by decide +kernel
theorem dX7_joined_119 : decode cX7_joined 119 = .ok (.ireturn, 1) := by decide +kernel
theorem dX7_joined_120 : decode cX7_joined 120 = .ok (.iload_n 1, 1) := by decide +kernel
theorem dX7_joined_121 : decode cX7_joined 121 = .ok (.iload_n 2, 1) := by decide +kernel
theorem dX7_joined_122 : decode cX7_joined 122 = .ok (.isub, 1) := by decide +kernel
theorem dX7_joined_123 : decode cX7_joined 123 = .ok (.ireturn, 1) := by decide +kernel
theorem dX7_joined_124 : decode cX7_joined 124 = .ok (.iload_n 1, 1) := by decide +kernel
theorem dX7_joined_125 : decode cX7_joined 125 = .ok (.iload_n 2, 1) := by decide +kernel
theorem dX7_joined_126 : decode cX7_joined 126 = .ok (.imul, 1) := by decide +kernel
theorem dX7_joined_127 : decode cX7_joined 127 = .ok (.ireturn, 1) := by decide +kernel
theorem dX7_joined_128 : decode cX7_joined 128 = .ok (.iload_n 2, 1) := by decide +kernel
theorem dX7_joined_129 : decode cX7_joined 129 = .ok (.ifCond .ne 7, 3) := by decide +kernel
theorem dX7_joined_132 : decode cX7_joined 132 = .ok (.iconst 0, 1) := by decide +kernel
theorem dX7_joined_133 : decode cX7_joined 133 = .ok (.goto 16, 3) := by decide +kernel
theorem dX7_joined_136 : decode cX7_joined 136 = .ok (.iload_n 2, 1) := by decide +kernel
theorem dX7_joined_137 : decode cX7_joined 137 = .ok (.iconst (-1), 1) := by decide +kernel
theorem dX7_joined_138 : decode cX7_joined 138 = .ok (.if_icmp .ne 8, 3) := by decide +kernel
theorem dX7_joined_141 : decode cX7_joined 141 = .ok (.iload_n 1, 1) := by decide +kernel
theorem dX7_joined_142 : decode cX7_joined 142 = .ok (.ineg, 1) := by decide +kernel
theorem dX7_joined_143 : decode cX7_joined 143 = .ok (.goto 6, 3) := by decide +kernel
theorem dX7_joined_146 : decode cX7_joined 146 = .ok (.iload_n 1, 1) := by decide +kernel
theorem dX7_joined_147 : decode cX7_joined 147 = .ok (.iload_n 2, 1) := by decide +kernel
theorem dX7_joined_148 : decode cX7_joined 148 = .ok (.idiv, 1) := by decide +kernel
theorem dX7_joined_149 : decode cX7_joined 149 = .ok (.ireturn, 1) := by decide +kernel
theorem dX7_joined_150 : decode cX7_joined 150 = .ok (.iload_n 1, 1) := by decide +kernel
theorem dX7_joined_151 : decode cX7_joined 151 = .ok (.iload_n 2, 1) := by decide +kernel
theorem dX7_joined_152 : decode cX7_joined 152 = .ok (.if_icmp .ge 7, 3) := by decide +kernel
theorem dX7_joined_155 : decode cX7_joined 155 = .ok (.iconst 1, 1) := by decide +kernel
theorem dX7_joined_156 : decode cX7_joined 156 = .ok (.goto 4, 3) := by decide +kernel
theorem dX7_joined_159 : decode cX7_joined 159 = .ok (.iconst 0, 1) := by decide +kernel
theorem dX7_joined_160 : decode cX7_joined 160 = .ok (.ireturn, 1) := by decide +kernel
theorem dX7_joined_161 : decode cX7_joined 161 = .ok (.iload_n 1, 1) := by decide +kernel
theorem dX7_joined_162 : decode cX7_joined 162 = .ok (.iload_n 2, 1) := by decide +kernel
theorem dX7_joined_163 : decode cX7_joined 163 = .ok (.if_icmp .le 7, 3) := by decide +kernel
theorem dX7_joined_166 : decode cX7_joined 166 = .ok (.iconst 1, 1) := by decide +kernel
theorem dX7_joined_167 : decode cX7_joined 167 = .ok (.goto 4, 3) := by decide +kernel
theorem dX7_joined_170 : decode cX7_joined 170 = .ok (.iconst 0, 1) := by decide +kernel
theorem dX7_joined_171 : decode cX7_joined 171 = .ok (.ireturn, 1) := by decide +kernel
theorem dX7_joined_172 : decode cX7_joined 172 = .ok (.iload_n 1, 1) := by decide +kernel
theorem dX7_joined_173 : decode cX7_joined 173 = .ok (.iload_n 2, 1) := by decide +kernel
theorem dX7_joined_174 : decode cX7_joined 174 = .ok (.if_icmp .ne 7, 3) := by decide +kernel
theorem dX7_joined_177 : decode cX7_joined 177 = .ok (.iconst 1, 1) := by decide +kernel
theorem dX7_joined_178 : decode cX7_joined 178 = .ok (.goto 4, 3) := by decide +kernel
theorem dX7_joined_181 : decode cX7_joined 181 = .ok (.iconst 0, 1) := by decide +kernel
theorem dX7_joined_182 : decode cX7_joined 182 = .ok (.ireturn, 1) := by decide +kernel
theorem dX7_joined_183 : decode cX7_joined 183 = .ok (.iload_n 1, 1) := by decide +kernel
theorem dX7_joined_184 : decode cX7_joined 184 = .ok (.ifCond .eq 11, 3) := by decide +kernel
theorem dX7_joined_187 : decode cX7_joined 187 = .ok (.iload_n 2, 1) := by decide +kernel
theorem dX7_joined_188 : decode cX7_joined 188 = .ok (.ifCond .eq 7, 3) := by decide +kernel
theorem dX7_joined_191 : decode cX7_joined 191 = .ok (.iconst 1, 1) := by decide +kernel
theorem dX7_joined_192 : decode cX7_joined 192 = .ok (.goto 4, 3) := by decide +kernel
theorem dX7_joined_195 : decode cX7_joined 195 = .ok (.iconst 0, 1) := by decide +kernel
theorem dX7_joined_196 : decode cX7_joined 196 = .ok (.ireturn, 1) := by decide +kernel
theorem dX7_joined_197 : decode cX7_joined 197 = .ok (.iload_n 1, 1) := by decide +kernel
theorem dX7_joined_198 : decode cX7_joined 198 = .ok (.ifCond .ne 7, 3) := by decide +kernel
theorem dX7_joined_201 : decode cX7_joined 201 = .ok (.iload_n 2, 1) := by decide +kernel
theorem dX7_joined_202 : decode cX7_joined 202 = .ok (.ifCond .eq 7, 3) := by decide +kernel
theorem dX7_joined_205 : decode cX7_joined 205 = .ok (.iconst 1, 1) := by decide +kernel
theorem dX7_joined_206 : decode cX7_joined 206 = .ok (.goto 4, 3) := by decide +kernel
theorem dX7_joined_209 : decode cX7_joined 209 = .ok (.iconst 0, 1) := by decide +kernel
theorem dX7_joined_210 : decode cX7_joined 210 = .ok (.ireturn, 1) := by decide +kernel
theorem dX7_worked_0 : decode cX7_worked 0 = .ok (.iconst 0, 1) := by decide +kernel
theorem dX7_worked_1 : decode cX7_worked 1 = .ok (.istore_n 2, 1) := by decide +kernel
theorem dX7_worked_2 : decode cX7_worked 2 = .ok (.iconst 0, 1) := by decide +kernel
theorem dX7_worked_3 : decode cX7_worked 3 = .ok (.istore_n 3, 1) := by decide +kernel
theorem dX7_worked_4 : decode cX7_worked 4 = .ok (.iload_n 3, 1) := by decide +kernel
theorem dX7_worked_5 : decode cX7_worked 5 = .ok (.aload_n 0, 1) := by decide +kernel
theorem dX7_worked_6 : decode cX7_worked 6 = .ok (.getfield 7, 3) := by decide +kernel
theorem dX7_worked_9 : decode cX7_worked 9 = .ok (.aload_n 0, 1) := by decide +kernel
theorem dX7_worked_10 : decode cX7_worked 10 = .ok (.iload_n 1, 1) := by decide +kernel
theorem dX7_worked_11 : decode cX7_worked 11 = .ok (.invokevirtual 300, 3) := by decide +kernel
theorem dX7_worked_14 : decode cX7_worked 14 = .ok (.iconst 2, 1) := by decide +kernel
theorem dX7_worked_15 : decode cX7_worked 15 = .ok (.iadd, 1) := by decide +kernel
theorem dX7_worked_16 : decode cX7_worked 16 = .ok (.iaload, 1) := by decide +kernel
theorem dX7_worked_17 : decode cX7_worked 17 = .ok (.if_icmp .ge 146, 3) := by decide +kernel
theorem dX7_worked_20 : decode cX7_worked 20 = .ok (.aload_n 0, 1) := by decide +kernel
theorem dX7_worked_21 : decode cX7_worked 21 = .ok (.getfield 7, 3) := by decide +kernel
theorem dX7_worked_24 : decode cX7_worked 24 = .ok (.aload_n 0, 1) := by decide +kernel
theorem dX7_worked_25 : decode cX7_worked 25 = .ok (.iload_n 1, 1) := by decide +kernel
theorem dX7_worked_26 : decode cX7_worked 26 = .ok (.invokevirtual 300, 3) := by decide +kernel
theorem dX7_worked_29 : decode cX7_worked 29 = .ok (.iconst 4, 1) := by decide +kernel
theorem dX7_worked_30 : decode cX7_worked 30 = .ok (.iadd, 1) := by decide +kernel
theorem dX7_worked_31 : decode cX7_worked 31 = .ok (.iconst 2, 1) := by decide +kernel
theorem dX7_worked_32 : decode cX7_worked 32 = .ok (.iload_n 3, 1) := by decide +kernel
theorem dX7_worked_33 : decode cX7_worked 33 = .ok (.imul, 1) := by decide +kernel
theorem dX7_worked_34 : decode cX7_worked 34 = .ok (.iadd, 1) := by decide +kernel
theorem dX7_worked_35 : decode cX7_worked 35 = .ok (.iaload, 1) := by decide +kernel
theorem dX7_worked_36 : decode cX7_worked 36 = .ok (.istore 4, 2) := by decide +kernel
theorem dX7_worked_38 : decode cX7_worked 38 = .ok (.aload_n 0, 1) := by decide +kernel
theorem dX7_worked_39 : decode cX7_worked 39 = .ok (.getfield 7, 3) := by decide +kernel
theorem dX7_worked_42 : decode cX7_worked 42 = .ok (.aload_n 0, 1) := by decide +kernel
theorem dX7_worked_43 : decode cX7_worked 43 = .ok (.iload_n 1, 1) := by decide +kernel
theorem dX7_worked_44 : decode cX7_worked 44 = .ok (.invokevirtual 300, 3) := by decide +kernel
theorem dX7_worked_47 : decode cX7_worked 47 = .ok (.iconst 4, 1) := by decide +kernel
theorem dX7_worked_48 : decode cX7_worked 48 = .ok (.iadd, 1) := by decide +kernel
theorem dX7_worked_49 : decode cX7_worked 49 = .ok (.iconst 2, 1) := by decide +kernel
theorem dX7_worked_50 : decode cX7_worked 50 = .ok (.iload_n 3, 1) := by decide +kernel
theorem dX7_worked_51 : decode cX7_worked 51 = .ok (.imul, 1) := by decide +kernel
theorem dX7_worked_52 : decode cX7_worked 52 = .ok (.iadd, 1) := by decide +kernel
theorem dX7_worked_53 : decode cX7_worked 53 = .ok (.iconst 1, 1) := by decide +kernel
theorem dX7_worked_54 : decode cX7_worked 54 = .ok (.iadd, 1) := by decide +kernel
theorem dX7_worked_55 : decode cX7_worked 55 = .ok (.iaload, 1) := by decide +kernel
theorem dX7_worked_56 : decode cX7_worked 56 = .ok (.istore 5, 2) := by decide +kernel
theorem dX7_worked_58 : decode cX7_worked 58 = .ok (.iload 4, 2) := by decide +kernel
theorem dX7_worked_60 : decode cX7_worked 60 = .ok (.iconst 2, 1) := by decide +kernel
theorem dX7_worked_61 : decode cX7_worked 61 = .ok (.if_icmp .eq 32, 3) := by decide +kernel
theorem dX7_worked_64 : decode cX7_worked 64 = .ok (.aload_n 0, 1) := by decide +kernel
theorem dX7_worked_65 : decode cX7_worked 65 = .ok (.getfield 55, 3) := by decide +kernel
theorem dX7_worked_68 : decode cX7_worked 68 = .ok (.iload_n 2, 1) := by decide +kernel
theorem dX7_worked_69 : decode cX7_worked 69 = .ok (.iload 4, 2) := by decide +kernel
theorem dX7_worked_71 : decode cX7_worked 71 = .ok (.ifCond .ne 8, 3) := by decide +kernel
theorem dX7_worked_74 : decode cX7_worked 74 = .ok (.iload 5, 2) := by decide +kernel
theorem dX7_worked_76 : decode cX7_worked 76 = .ok (.goto 10, 3) := by decide +kernel
theorem dX7_worked_79 : decode cX7_worked 79 = .ok (.aload_n 0, 1) := by decide +kernel
theorem dX7_worked_80 : decode cX7_worked 80 = .ok (.getfield 52, 3) := by decide +kernel
theorem dX7_worked_83 : decode cX7_worked 83 = .ok (.iload 5, 2) := by decide +kernel
theorem dX7_worked_85 : decode cX7_worked 85 = .ok (.iaload, 1) := by decide +kernel
theorem dX7_worked_86 : decode cX7_worked 86 = .ok (.iastore, 1) := by decide +kernel
theorem dX7_worked_87 : decode cX7_worked 87 = .ok (.iinc 2 1, 3) := by decide +kernel
theorem dX7_worked_90 : decode cX7_worked 90 = .ok (.goto 67, 3) := by decide +kernel
theorem dX7_worked_93 : decode cX7_worked 93 = .ok (.iload 5, 2) := by decide +kernel
theorem dX7_worked_95 : decode cX7_worked 95 = .ok (.bipush 33, 2) := by decide +kernel
theorem dX7_worked_97 : decode cX7_worked 97 = .ok (.if_icmp .ne 30, 3) := by decide +kernel
theorem dX7_worked_100 : decode cX7_worked 100 = .ok (.aload_n 0, 1) := by decide +kernel
theorem dX7_worked_101 : decode cX7_worked 101 = .ok (.getfield 55, 3) := by decide +kernel
theorem dX7_worked_104 : decode cX7_worked 104 = .ok (.iload_n 2, 1) := by decide +kernel
theorem dX7_worked_105 : decode cX7_worked 105 = .ok (.iconst 1, 1) := by decide +kernel
theorem dX7_worked_106 : decode cX7_worked 106 = .ok (.isub, 1) := by decide +kernel
theorem dX7_worked_107 : decode cX7_worked 107 = .ok (.aload_n 0, 1) := by decide +kernel
theorem dX7_worked_108 : decode cX7_worked 108 = .ok (.getfield 55, 3) := by decide +kernel
theorem dX7_worked_111 : decode cX7_worked 111 = .ok (.iload_n 2, 1) := by decide +kernel
theorem dX7_worked_112 : decode cX7_worked 112 = .ok (.iconst 1, 1) := by decide +kernel
theorem dX7_worked_113 : decode cX7_worked 113 = .ok (.isub, 1) := by decide +kernel
theorem dX7_worked_114 : decode cX7_worked 114 = .ok (.iaload, 1) := by decide +kernel
theorem dX7_worked_115 : decode cX7_worked 115 = .ok (.ifCond .ne 7, 3) := by decide +kernel
theorem dX7_worked_118 : decode cX7_worked 118 = .ok (.iconst 1, 1) := by decide +kernel
theorem dX7_worked_119 : decode cX7_worked 119 = .ok (.goto 4, 3) := by decide +kernel
theorem dX7_worked_122 : decode cX7_worked 122 = .ok (.iconst 0, 1) := by decide +kernel
theorem dX7_worked_123 : decode cX7_worked 123 = .ok (.iastore, 1) := by decide +kernel
theorem dX7_worked_124 : decode cX7_worked 124 = .ok (.goto 33, 3) := by decide +kernel
theorem dX7_worked_127 : decode cX7_worked 127 = .ok (.iinc 2 (-1), 3) := by decide +kernel
theorem dX7_worked_130 : decode cX7_worked 130 = .ok (.aload_n 0, 1) := by decide +kernel
theorem dX7_worked_131 : decode cX7_worked 131 = .ok (.getfield 55, 3) := by decide +kernel
theorem dX7_worked_134 : decode cX7_worked 134 = .ok (.iload_n 2, 1) := by decide +kernel
theorem dX7_worked_135 : decode cX7_worked 135 = .ok (.iconst 1, 1) := by decide +kernel
theorem dX7_worked_136 : decode cX7_worked 136 = .ok (.isub, 1) := by decide +kernel
theorem dX7_worked_137 : decode cX7_worked 137 = .ok (.iload 5, 2) := by decide +kernel
theorem dX7_worked_139 : decode cX7_worked 139 = .ok (.aload_n 0, 1) := by decide +kernel
theorem dX7_worked_140 : decode cX7_worked 140 = .ok (.getfield 55, 3) := by decide +kernel
theorem dX7_worked_143 : decode cX7_worked 143 = .ok (.iload_n 2, 1) := by decide +kernel
theorem dX7_worked_144 : decode cX7_worked 144 = .ok (.iconst 1, 1) := by decide +kernel
theorem dX7_worked_145 : decode cX7_worked 145 = .ok (.isub, 1) := by decide +kernel
theorem dX7_worked_146 : decode cX7_worked 146 = .ok (.iaload, 1) := by decide +kernel
theorem dX7_worked_147 : decode cX7_worked 147 = .ok (.aload_n 0, 1) := by decide +kernel
theorem dX7_worked_148 : decode cX7_worked 148 = .ok (.getfield 55, 3) := by decide +kernel
theorem dX7_worked_151 : decode cX7_worked 151 = .ok (.iload_n 2, 1) := by decide +kernel
theorem dX7_worked_152 : decode cX7_worked 152 = .ok (.iaload, 1) := by decide +kernel
theorem dX7_worked_153 : decode cX7_worked 153 = .ok (.invokestatic 312, 3) := by decide +kernel
theorem dX7_worked_156 : decode cX7_worked 156 = .ok (.iastore, 1) := by decide +kernel
theorem dX7_worked_157 : decode cX7_worked 157 = .ok (.iinc 3 1, 3) := by decide +kernel
theorem dX7_worked_160 : decode cX7_worked 160 = .ok (.goto (-156), 3) := by decide +kernel
theorem dX7_worked_163 : decode cX7_worked 163 = .ok (.aload_n 0, 1) := by decide +kernel
theorem dX7_worked_164 : decode cX7_worked 164 = .ok (.getfield 55, 3) := by decide +kernel
theorem dX7_worked_167 : decode cX7_worked 167 = .ok (.iconst 0, 1) := by decide +kernel
theorem dX7_worked_168 : decode cX7_worked 168 = .ok (.iaload, 1) := by decide +kernel
theorem dX7_worked_169 : decode cX7_worked 169 = .ok (.ireturn, 1) := by decide +kernel
theorem dX7_isSheet_0 : decode cX7_isSheet 0 = .ok (.iload_n 0, 1) := by decide +kernel
theorem dX7_isSheet_1 : decode cX7_isSheet 1 = .ok (.i2l, 1) := by decide +kernel
theorem dX7_isSheet_2 : decode cX7_isSheet 2 = .ok (.lconst 0, 1) := by decide +kernel
theorem dX7_isSheet_3 : decode cX7_isSheet 3 = .ok (.ldc2_w 133, 3) := by decide +kernel
theorem dX7_isSheet_6 : decode cX7_isSheet 6 = .ok (.invokestatic 68, 3) := by decide +kernel
theorem dX7_isSheet_9 : decode cX7_isSheet 9 = .ok (.ireturn, 1) := by decide +kernel
theorem dX7_sheet_0 : decode cX7_sheet 0 = .ok (.iload_n 1, 1) := by decide +kernel
theorem dX7_sheet_1 : decode cX7_sheet 1 = .ok (.invokestatic 316, 3) := by decide +kernel
theorem dX7_sheet_4 : decode cX7_sheet 4 = .ok (.ifCond .eq 25, 3) := by decide +kernel
theorem dX7_sheet_7 : decode cX7_sheet 7 = .ok (.iload_n 2, 1) := by decide +kernel
theorem dX7_sheet_8 : decode cX7_sheet 8 = .ok (.i2l, 1) := by decide +kernel
theorem dX7_sheet_9 : decode cX7_sheet 9 = .ok (.ldc2_w 319, 3) := by decide +kernel
theorem dX7_sheet_12 : decode cX7_sheet 12 = .ok (.lconst 1, 1) := by decide +kernel
theorem dX7_sheet_13 : decode cX7_sheet 13 = .ok (.invokestatic 68, 3) := by decide +kernel
theorem dX7_sheet_16 : decode cX7_sheet 16 = .ok (.ifCond .eq 13, 3) := by decide +kernel
theorem dX7_sheet_19 : decode cX7_sheet 19 = .ok (.iload_n 2, 1) := by decide +kernel
theorem dX7_sheet_20 : decode cX7_sheet 20 = .ok (.ifCond .lt 12, 3) := by decide +kernel
theorem dX7_sheet_23 : decode cX7_sheet 23 = .ok (.iload_n 3, 1) := by decide +kernel
theorem dX7_sheet_24 : decode cX7_sheet 24 = .ok (.bipush 24, 2) := by decide +kernel
theorem dX7_sheet_26 : decode cX7_sheet 26 = .ok (.if_icmp .le 6, 3) := by decide +kernel
theorem dX7_sheet_29 : decode cX7_sheet 29 = .ok (.ldc 87, 2) := by decide +kernel
theorem dX7_sheet_31 : decode cX7_sheet 31 = .ok (.ireturn, 1) := by decide +kernel
theorem dX7_sheet_32 : decode cX7_sheet 32 = .ok (.iload_n 2, 1) := by decide +kernel
theorem dX7_sheet_33 : decode cX7_sheet 33 = .ok (.ifCond .lt 11, 3) := by decide +kernel
theorem dX7_sheet_36 : decode cX7_sheet 36 = .ok (.iload_n 3, 1) := by decide +kernel
theorem dX7_sheet_37 : decode cX7_sheet 37 = .ok (.ifCond .ge 7, 3) := by decide +kernel
theorem dX7_sheet_40 : decode cX7_sheet 40 = .ok (.ldc_w 321, 3) := by decide +kernel
theorem dX7_sheet_43 : decode cX7_sheet 43 = .ok (.ireturn, 1) := by decide +kernel
theorem dX7_sheet_44 : decode cX7_sheet 44 = .ok (.aload_n 0, 1) := by decide +kernel
theorem dX7_sheet_45 : decode cX7_sheet 45 = .ok (.getfield 19, 3) := by decide +kernel
theorem dX7_sheet_48 : decode cX7_sheet 48 = .ok (.iload_n 1, 1) := by decide +kernel
theorem dX7_sheet_49 : decode cX7_sheet 49 = .ok (.iload_n 2, 1) := by decide +kernel
theorem dX7_sheet_50 : decode cX7_sheet 50 = .ok (.iastore, 1) := by decide +kernel
theorem dX7_sheet_51 : decode cX7_sheet 51 = .ok (.aload_n 0, 1) := by decide +kernel
theorem dX7_sheet_52 : decode cX7_sheet 52 = .ok (.getfield 22, 3) := by decide +kernel
theorem dX7_sheet_55 : decode cX7_sheet 55 = .ok (.iload_n 1, 1) := by decide +kernel
theorem dX7_sheet_56 : decode cX7_sheet 56 = .ok (.iload_n 2, 1) := by decide +kernel
theorem dX7_sheet_57 : decode cX7_sheet 57 = .ok (.ifCond .ge 7, 3) := by decide +kernel
theorem dX7_sheet_60 : decode cX7_sheet 60 = .ok (.iconst 0, 1) := by decide +kernel
theorem dX7_sheet_61 : decode cX7_sheet 61 = .ok (.goto 4, 3) := by decide +kernel
theorem dX7_sheet_64 : decode cX7_sheet 64 = .ok (.iload_n 3, 1) := by decide +kernel
theorem dX7_sheet_65 : decode cX7_sheet 65 = .ok (.iastore, 1) := by decide +kernel
theorem dX7_sheet_66 : decode cX7_sheet 66 = .ok (.iconst 0, 1) := by decide +kernel
theorem dX7_sheet_67 : decode cX7_sheet 67 = .ok (.istore 4, 2) := by decide +kernel
theorem dX7_sheet_69 : decode cX7_sheet 69 = .ok (.iload 4, 2) := by decide +kernel
theorem dX7_sheet_71 : decode cX7_sheet 71 = .ok (.bipush 24, 2) := by decide +kernel
theorem dX7_sheet_73 : decode cX7_sheet 73 = .ok (.if_icmp .ge 22, 3) := by decide +kernel
theorem dX7_sheet_76 : decode cX7_sheet 76 = .ok (.aload_n 0, 1) := by decide +kernel
theorem dX7_sheet_77 : decode cX7_sheet 77 = .ok (.getfield 25, 3) := by decide +kernel
theorem dX7_sheet_80 : decode cX7_sheet 80 = .ok (.bipush 24, 2) := by decide +kernel
theorem dX7_sheet_82 : decode cX7_sheet 82 = .ok (.iload_n 1, 1) := by decide +kernel
theorem dX7_sheet_83 : decode cX7_sheet 83 = .ok (.imul, 1) := by decide +kernel
theorem dX7_sheet_84 : decode cX7_sheet 84 = .ok (.iload 4, 2) := by decide +kernel
theorem dX7_sheet_86 : decode cX7_sheet 86 = .ok (.iadd, 1) := by decide +kernel
theorem dX7_sheet_87 : decode cX7_sheet 87 = .ok (.iconst 0, 1) := by decide +kernel
theorem dX7_sheet_88 : decode cX7_sheet 88 = .ok (.iastore, 1) := by decide +kernel
theorem dX7_sheet_89 : decode cX7_sheet 89 = .ok (.iinc 4 1, 3) := by decide +kernel
theorem dX7_sheet_92 : decode cX7_sheet 92 = .ok (.goto (-23), 3) := by decide +kernel
theorem dX7_sheet_95 : decode cX7_sheet 95 = .ok (.aload_n 0, 1) := by decide +kernel
theorem dX7_sheet_96 : decode cX7_sheet 96 = .ok (.getfield 22, 3) := by decide +kernel
theorem dX7_sheet_99 : decode cX7_sheet 99 = .ok (.iload_n 1, 1) := by decide +kernel
theorem dX7_sheet_100 : decode cX7_sheet 100 = .ok (.iaload, 1) := by decide +kernel
theorem dX7_sheet_101 : decode cX7_sheet 101 = .ok (.ireturn, 1) := by decide +kernel
theorem dX7_mark_0 : decode cX7_mark 0 = .ok (.iload_n 1, 1) := by decide +kernel
theorem dX7_mark_1 : decode cX7_mark 1 = .ok (.invokestatic 316, 3) := by decide +kernel
theorem dX7_mark_4 : decode cX7_mark 4 = .ok (.ifCond .ne 6, 3) := by decide +kernel
theorem dX7_mark_7 : decode cX7_mark 7 = .ok (.ldc 87, 2) := by decide +kernel
theorem dX7_mark_9 : decode cX7_mark 9 = .ok (.ireturn, 1) := by decide +kernel
theorem dX7_mark_10 : decode cX7_mark 10 = .ok (.aload_n 0, 1) := by decide +kernel
theorem dX7_mark_11 : decode cX7_mark 11 = .ok (.getfield 19, 3) := by decide +kernel
theorem dX7_mark_14 : decode cX7_mark 14 = .ok (.iload_n 1, 1) := by decide +kernel
theorem dX7_mark_15 : decode cX7_mark 15 = .ok (.iaload, 1) := by decide +kernel
theorem dX7_mark_16 : decode cX7_mark 16 = .ok (.ifCond .ge 7, 3) := by decide +kernel
theorem dX7_mark_19 : decode cX7_mark 19 = .ok (.ldc_w 322, 3) := by decide +kernel
theorem dX7_mark_22 : decode cX7_mark 22 = .ok (.ireturn, 1) := by decide +kernel
theorem dX7_mark_23 : decode cX7_mark 23 = .ok (.iload_n 2, 1) := by decide +kernel
theorem dX7_mark_24 : decode cX7_mark 24 = .ok (.i2l, 1) := by decide +kernel
theorem dX7_mark_25 : decode cX7_mark 25 = .ok (.lconst 0, 1) := by decide +kernel
theorem dX7_mark_26 : decode cX7_mark 26 = .ok (.aload_n 0, 1) := by decide +kernel
theorem dX7_mark_27 : decode cX7_mark 27 = .ok (.getfield 22, 3) := by decide +kernel
theorem dX7_mark_30 : decode cX7_mark 30 = .ok (.iload_n 1, 1) := by decide +kernel
theorem dX7_mark_31 : decode cX7_mark 31 = .ok (.iaload, 1) := by decide +kernel
theorem dX7_mark_32 : decode cX7_mark 32 = .ok (.iconst 1, 1) := by decide +kernel
theorem dX7_mark_33 : decode cX7_mark 33 = .ok (.isub, 1) := by decide +kernel
theorem dX7_mark_34 : decode cX7_mark 34 = .ok (.i2l, 1) := by decide +kernel
theorem dX7_mark_35 : decode cX7_mark 35 = .ok (.invokestatic 68, 3) := by decide +kernel
theorem dX7_mark_38 : decode cX7_mark 38 = .ok (.ifCond .ne 7, 3) := by decide +kernel
theorem dX7_mark_41 : decode cX7_mark 41 = .ok (.ldc_w 323, 3) := by decide +kernel
theorem dX7_mark_44 : decode cX7_mark 44 = .ok (.ireturn, 1) := by decide +kernel
theorem dX7_mark_45 : decode cX7_mark 45 = .ok (.aload_n 0, 1) := by decide +kernel
theorem dX7_mark_46 : decode cX7_mark 46 = .ok (.getfield 19, 3) := by decide +kernel
theorem dX7_mark_49 : decode cX7_mark 49 = .ok (.iload_n 1, 1) := by decide +kernel
theorem dX7_mark_50 : decode cX7_mark 50 = .ok (.iaload, 1) := by decide +kernel
theorem dX7_mark_51 : decode cX7_mark 51 = .ok (.ifCond .ne 12, 3) := by decide +kernel
theorem dX7_mark_54 : decode cX7_mark 54 = .ok (.iload_n 3, 1) := by decide +kernel
theorem dX7_mark_55 : decode cX7_mark 55 = .ok (.ldc 67, 2) := by decide +kernel
theorem dX7_mark_57 : decode cX7_mark 57 = .ok (.if_icmp .ne 6, 3) := by decide +kernel
theorem dX7_mark_60 : decode cX7_mark 60 = .ok (.ldc 129, 2) := by decide +kernel
theorem dX7_mark_62 : decode cX7_mark 62 = .ok (.ireturn, 1) := by decide +kernel
theorem dX7_mark_63 : decode cX7_mark 63 = .ok (.aload_n 0, 1) := by decide +kernel
theorem dX7_mark_64 : decode cX7_mark 64 = .ok (.getfield 19, 3) := by decide +kernel
theorem dX7_mark_67 : decode cX7_mark 67 = .ok (.iload_n 1, 1) := by decide +kernel
theorem dX7_mark_68 : decode cX7_mark 68 = .ok (.iaload, 1) := by decide +kernel
theorem dX7_mark_69 : decode cX7_mark 69 = .ok (.iconst 1, 1) := by decide +kernel
theorem dX7_mark_70 : decode cX7_mark 70 = .ok (.if_icmp .ne 26, 3) := by decide +kernel
theorem dX7_mark_73 : decode cX7_mark 73 = .ok (.iload_n 3, 1) := by decide +kernel
theorem dX7_mark_74 : decode cX7_mark 74 = .ok (.ldc 67, 2) := by decide +kernel
theorem dX7_mark_76 : decode cX7_mark 76 = .ok (.if_icmp .eq 20, 3) := by decide +kernel
theorem dX7_mark_79 : decode cX7_mark 79 = .ok (.iload_n 3, 1) := by decide +kernel
theorem dX7_mark_80 : decode cX7_mark 80 = .ok (.i2l, 1) := by decide +kernel
theorem dX7_mark_81 : decode cX7_mark 81 = .ok (.ldc2_w 324, 3) := by decide +kernel
theorem dX7_mark_84 : decode cX7_mark 84 = .ok (.ldc2_w 326, 3) := by decide +kernel
theorem dX7_mark_87 : decode cX7_mark 87 = .ok (.invokestatic 68, 3) := by decide +kernel
theorem dX7_mark_90 : decode cX7_mark 90 = .ok (.ifCond .ne 6, 3) := by decide +kernel
theorem dX7_mark_93 : decode cX7_mark 93 = .ok (.ldc 87, 2) := by decide +kernel
theorem dX7_mark_95 : decode cX7_mark 95 = .ok (.ireturn, 1) := by decide +kernel
theorem dX7_mark_96 : decode cX7_mark 96 = .ok (.aload_n 0, 1) := by decide +kernel
theorem dX7_mark_97 : decode cX7_mark 97 = .ok (.getfield 25, 3) := by decide +kernel
theorem dX7_mark_100 : decode cX7_mark 100 = .ok (.bipush 24, 2) := by decide +kernel
theorem dX7_mark_102 : decode cX7_mark 102 = .ok (.iload_n 1, 1) := by decide +kernel
theorem dX7_mark_103 : decode cX7_mark 103 = .ok (.imul, 1) := by decide +kernel
theorem dX7_mark_104 : decode cX7_mark 104 = .ok (.iload_n 2, 1) := by decide +kernel
theorem dX7_mark_105 : decode cX7_mark 105 = .ok (.iadd, 1) := by decide +kernel
theorem dX7_mark_106 : decode cX7_mark 106 = .ok (.aload_n 0, 1) := by decide +kernel
theorem dX7_mark_107 : decode cX7_mark 107 = .ok (.getfield 19, 3) := by decide +kernel
theorem dX7_mark_110 : decode cX7_mark 110 = .ok (.iload_n 1, 1) := by decide +kernel
theorem dX7_mark_111 : decode cX7_mark 111 = .ok (.iaload, 1) := by decide +kernel
theorem dX7_mark_112 : decode cX7_mark 112 = .ok (.ifCond .ne 13, 3) := by decide +kernel
theorem dX7_mark_115 : decode cX7_mark 115 = .ok (.iload_n 3, 1) := by decide +kernel
theorem dX7_mark_116 : decode cX7_mark 116 = .ok (.bipush 16, 2) := by decide +kernel
theorem dX7_mark_118 : decode cX7_mark 118 = .ok (.ishl, 1) := by decide +kernel
theorem dX7_mark_119 : decode cX7_mark 119 = .ok (.bipush 16, 2) := by decide +kernel
theorem dX7_mark_121 : decode cX7_mark 121 = .ok (.ishr, 1) := by decide +kernel
theorem dX7_mark_122 : decode cX7_mark 122 = .ok (.goto 4, 3) := by decide +kernel
theorem dX7_mark_125 : decode cX7_mark 125 = .ok (.iload_n 3, 1) := by decide +kernel
theorem dX7_mark_126 : decode cX7_mark 126 = .ok (.iastore, 1) := by decide +kernel
theorem dX7_mark_127 : decode cX7_mark 127 = .ok (.iconst 1, 1) := by decide +kernel
theorem dX7_mark_128 : decode cX7_mark 128 = .ok (.ireturn, 1) := by decide +kernel
theorem dX7_pour_0 : decode cX7_pour 0 = .ok (.iload_n 1, 1) := by decide +kernel
theorem dX7_pour_1 : decode cX7_pour 1 = .ok (.invokestatic 316, 3) := by decide +kernel
theorem dX7_pour_4 : decode cX7_pour 4 = .ok (.ifCond .ne 6, 3) := by decide +kernel
theorem dX7_pour_7 : decode cX7_pour 7 = .ok (.ldc 87, 2) := by decide +kernel
theorem dX7_pour_9 : decode cX7_pour 9 = .ok (.ireturn, 1) := by decide +kernel
theorem dX7_pour_10 : decode cX7_pour 10 = .ok (.aload_n 0, 1) := by decide +kernel
theorem dX7_pour_11 : decode cX7_pour 11 = .ok (.getfield 19, 3) := by decide +kernel
theorem dX7_pour_14 : decode cX7_pour 14 = .ok (.iload_n 1, 1) := by decide +kernel
theorem dX7_pour_15 : decode cX7_pour 15 = .ok (.iaload, 1) := by decide +kernel
theorem dX7_pour_16 : decode cX7_pour 16 = .ok (.ifCond .ge 7, 3) := by decide +kernel
theorem dX7_pour_19 : decode cX7_pour 19 = .ok (.ldc_w 322, 3) := by decide +kernel
theorem dX7_pour_22 : decode cX7_pour 22 = .ok (.ireturn, 1) := by decide +kernel
theorem dX7_pour_23 : decode cX7_pour 23 = .ok (.iconst 0, 1) := by decide +kernel
theorem dX7_pour_24 : decode cX7_pour 24 = .ok (.istore_n 2, 1) := by decide +kernel
theorem dX7_pour_25 : decode cX7_pour 25 = .ok (.iconst 0, 1) := by decide +kernel
theorem dX7_pour_26 : decode cX7_pour 26 = .ok (.istore_n 3, 1) := by decide +kernel
theorem dX7_pour_27 : decode cX7_pour 27 = .ok (.iload_n 3, 1) := by decide +kernel
theorem dX7_pour_28 : decode cX7_pour 28 = .ok (.aload_n 0, 1) := by decide +kernel
theorem dX7_pour_29 : decode cX7_pour 29 = .ok (.getfield 22, 3) := by decide +kernel
theorem dX7_pour_32 : decode cX7_pour 32 = .ok (.iload_n 1, 1) := by decide +kernel
theorem dX7_pour_33 : decode cX7_pour 33 = .ok (.iaload, 1) := by decide +kernel
theorem dX7_pour_34 : decode cX7_pour 34 = .ok (.if_icmp .ge 80, 3) := by decide +kernel
theorem dX7_pour_37 : decode cX7_pour 37 = .ok (.iload_n 3, 1) := by decide +kernel
theorem dX7_pour_38 : decode cX7_pour 38 = .ok (.bipush 6, 2) := by decide +kernel
theorem dX7_pour_40 : decode cX7_pour 40 = .ok (.if_icmp .ge 74, 3) := by decide +kernel
theorem dX7_pour_43 : decode cX7_pour 43 = .ok (.aload_n 0, 1) := by decide +kernel
theorem dX7_pour_44 : decode cX7_pour 44 = .ok (.getfield 25, 3) := by decide +kernel
theorem dX7_pour_47 : decode cX7_pour 47 = .ok (.bipush 24, 2) := by decide +kernel
theorem dX7_pour_49 : decode cX7_pour 49 = .ok (.iload_n 1, 1) := by decide +kernel
theorem dX7_pour_50 : decode cX7_pour 50 = .ok (.imul, 1) := by decide +kernel
theorem dX7_pour_51 : decode cX7_pour 51 = .ok (.iload_n 3, 1) := by decide +kernel
theorem dX7_pour_52 : decode cX7_pour 52 = .ok (.iadd, 1) := by decide +kernel
theorem dX7_pour_53 : decode cX7_pour 53 = .ok (.iaload, 1) := by decide +kernel
theorem dX7_pour_54 : decode cX7_pour 54 = .ok (.istore 4, 2) := by decide +kernel
theorem dX7_pour_56 : decode cX7_pour 56 = .ok (.iload 4, 2) := by decide +kernel
theorem dX7_pour_58 : decode cX7_pour 58 = .ok (.ldc 67, 2) := by decide +kernel
theorem dX7_pour_60 : decode cX7_pour 60 = .ok (.if_icmp .ne 15, 3) := by decide +kernel
theorem dX7_pour_63 : decode cX7_pour 63 = .ok (.aload_n 0, 1) := by decide +kernel
theorem dX7_pour_64 : decode cX7_pour 64 = .ok (.getfield 7, 3) := by decide +kernel
theorem dX7_pour_67 : decode cX7_pour 67 = .ok (.bipush 6, 2) := by decide +kernel
theorem dX7_pour_69 : decode cX7_pour 69 = .ok (.iload_n 3, 1) := by decide +kernel
theorem dX7_pour_70 : decode cX7_pour 70 = .ok (.iadd, 1) := by decide +kernel
theorem dX7_pour_71 : decode cX7_pour 71 = .ok (.iaload, 1) := by decide +kernel
theorem dX7_pour_72 : decode cX7_pour 72 = .ok (.goto 11, 3) := by decide +kernel
theorem dX7_pour_75 : decode cX7_pour 75 = .ok (.iload 4, 2) := by decide +kernel
theorem dX7_pour_77 : decode cX7_pour 77 = .ok (.sipush 9999, 3) := by decide +kernel
theorem dX7_pour_80 : decode cX7_pour 80 = .ok (.invokestatic 101, 3) := by decide +kernel
theorem dX7_pour_83 : decode cX7_pour 83 = .ok (.istore 5, 2) := by decide +kernel
theorem dX7_pour_85 : decode cX7_pour 85 = .ok (.iload_n 2, 1) := by decide +kernel
theorem dX7_pour_86 : decode cX7_pour 86 = .ok (.iload 5, 2) := by decide +kernel
theorem dX7_pour_88 : decode cX7_pour 88 = .ok (.aload_n 0, 1) := by decide +kernel
theorem dX7_pour_89 : decode cX7_pour 89 = .ok (.bipush 6, 2) := by decide +kernel
theorem dX7_pour_91 : decode cX7_pour 91 = .ok (.iload_n 3, 1) := by decide +kernel
theorem dX7_pour_92 : decode cX7_pour 92 = .ok (.iadd, 1) := by decide +kernel
theorem dX7_pour_93 : decode cX7_pour 93 = .ok (.iload 5, 2) := by decide +kernel
theorem dX7_pour_95 : decode cX7_pour 95 = .ok (.invokevirtual 130, 3) := by decide +kernel
theorem dX7_pour_98 : decode cX7_pour 98 = .ok (.if_icmp .ne 7, 3) := by decide +kernel
theorem dX7_pour_101 : decode cX7_pour 101 = .ok (.iconst 0, 1) := by decide +kernel
theorem dX7_pour_102 : decode cX7_pour 102 = .ok (.goto 4, 3) := by decide +kernel
theorem dX7_pour_105 : decode cX7_pour 105 = .ok (.iconst 1, 1) := by decide +kernel
theorem dX7_pour_106 : decode cX7_pour 106 = .ok (.iadd, 1) := by decide +kernel
theorem dX7_pour_107 : decode cX7_pour 107 = .ok (.istore_n 2, 1) := by decide +kernel
theorem dX7_pour_108 : decode cX7_pour 108 = .ok (.iinc 3 1, 3) := by decide +kernel
theorem dX7_pour_111 : decode cX7_pour 111 = .ok (.goto (-84), 3) := by decide +kernel
theorem dX7_pour_114 : decode cX7_pour 114 = .ok (.iload_n 2, 1) := by decide +kernel
theorem dX7_pour_115 : decode cX7_pour 115 = .ok (.ireturn, 1) := by decide +kernel
theorem dX7_reads_0 : decode cX7_reads 0 = .ok (.iload_n 1, 1) := by decide +kernel
theorem dX7_reads_1 : decode cX7_reads 1 = .ok (.invokestatic 316, 3) := by decide +kernel
theorem dX7_reads_4 : decode cX7_reads 4 = .ok (.ifCond .ne 6, 3) := by decide +kernel
theorem dX7_reads_7 : decode cX7_reads 7 = .ok (.ldc 87, 2) := by decide +kernel
theorem dX7_reads_9 : decode cX7_reads 9 = .ok (.ireturn, 1) := by decide +kernel
theorem dX7_reads_10 : decode cX7_reads 10 = .ok (.aload_n 0, 1) := by decide +kernel
theorem dX7_reads_11 : decode cX7_reads 11 = .ok (.getfield 19, 3) := by decide +kernel
theorem dX7_reads_14 : decode cX7_reads 14 = .ok (.iload_n 1, 1) := by decide +kernel
theorem dX7_reads_15 : decode cX7_reads 15 = .ok (.iaload, 1) := by decide +kernel
theorem dX7_reads_16 : decode cX7_reads 16 = .ok (.ifCond .ge 7, 3) := by decide +kernel
theorem dX7_reads_19 : decode cX7_reads 19 = .ok (.ldc_w 322, 3) := by decide +kernel
theorem dX7_reads_22 : decode cX7_reads 22 = .ok (.ireturn, 1) := by decide +kernel
theorem dX7_reads_23 : decode cX7_reads 23 = .ok (.iconst 0, 1) := by decide +kernel
theorem dX7_reads_24 : decode cX7_reads 24 = .ok (.istore_n 2, 1) := by decide +kernel
theorem dX7_reads_25 : decode cX7_reads 25 = .ok (.iload_n 2, 1) := by decide +kernel
theorem dX7_reads_26 : decode cX7_reads 26 = .ok (.aload_n 0, 1) := by decide +kernel
theorem dX7_reads_27 : decode cX7_reads 27 = .ok (.getfield 22, 3) := by decide +kernel
theorem dX7_reads_30 : decode cX7_reads 30 = .ok (.iload_n 1, 1) := by decide +kernel
theorem dX7_reads_31 : decode cX7_reads 31 = .ok (.iaload, 1) := by decide +kernel
theorem dX7_reads_32 : decode cX7_reads 32 = .ok (.if_icmp .ge 49, 3) := by decide +kernel
theorem dX7_reads_35 : decode cX7_reads 35 = .ok (.aload_n 0, 1) := by decide +kernel
theorem dX7_reads_36 : decode cX7_reads 36 = .ok (.getfield 25, 3) := by decide +kernel
theorem dX7_reads_39 : decode cX7_reads 39 = .ok (.bipush 24, 2) := by decide +kernel
theorem dX7_reads_41 : decode cX7_reads 41 = .ok (.iload_n 1, 1) := by decide +kernel
theorem dX7_reads_42 : decode cX7_reads 42 = .ok (.imul, 1) := by decide +kernel
theorem dX7_reads_43 : decode cX7_reads 43 = .ok (.iload_n 2, 1) := by decide +kernel
theorem dX7_reads_44 : decode cX7_reads 44 = .ok (.iadd, 1) := by decide +kernel
theorem dX7_reads_45 : decode cX7_reads 45 = .ok (.iaload, 1) := by decide +kernel
theorem dX7_reads_46 : decode cX7_reads 46 = .ok (.istore_n 3, 1) := by decide +kernel
theorem dX7_reads_47 : decode cX7_reads 47 = .ok (.iload_n 3, 1) := by decide +kernel
theorem dX7_reads_48 : decode cX7_reads 48 = .ok (.ldc 67, 2) := by decide +kernel
theorem dX7_reads_50 : decode cX7_reads 50 = .ok (.if_icmp .eq 25, 3) := by decide +kernel
theorem dX7_reads_53 : decode cX7_reads 53 = .ok (.iload_n 2, 1) := by decide +kernel
theorem dX7_reads_54 : decode cX7_reads 54 = .ok (.aload_n 0, 1) := by decide +kernel
theorem dX7_reads_55 : decode cX7_reads 55 = .ok (.getfield 7, 3) := by decide +kernel
theorem dX7_reads_58 : decode cX7_reads 58 = .ok (.iconst 0, 1) := by decide +kernel
theorem dX7_reads_59 : decode cX7_reads 59 = .ok (.iaload, 1) := by decide +kernel
theorem dX7_reads_60 : decode cX7_reads 60 = .ok (.if_icmp .ge 13, 3) := by decide +kernel
theorem dX7_reads_63 : decode cX7_reads 63 = .ok (.iload_n 3, 1) := by decide +kernel
theorem dX7_reads_64 : decode cX7_reads 64 = .ok (.aload_n 0, 1) := by decide +kernel
theorem dX7_reads_65 : decode cX7_reads 65 = .ok (.iload_n 2, 1) := by decide +kernel
theorem dX7_reads_66 : decode cX7_reads 66 = .ok (.iconst 3, 1) := by decide +kernel
theorem dX7_reads_67 : decode cX7_reads 67 = .ok (.invokevirtual 97, 3) := by decide +kernel
theorem dX7_reads_70 : decode cX7_reads 70 = .ok (.if_icmp .eq 5, 3) := by decide +kernel
theorem dX7_reads_73 : decode cX7_reads 73 = .ok (.iload_n 2, 1) := by decide +kernel
theorem dX7_reads_74 : decode cX7_reads 74 = .ok (.ireturn, 1) := by decide +kernel
theorem dX7_reads_75 : decode cX7_reads 75 = .ok (.iinc 2 1, 3) := by decide +kernel
theorem dX7_reads_78 : decode cX7_reads 78 = .ok (.goto (-53), 3) := by decide +kernel
theorem dX7_reads_81 : decode cX7_reads 81 = .ok (.ldc 67, 2) := by decide +kernel
theorem dX7_reads_83 : decode cX7_reads 83 = .ok (.ireturn, 1) := by decide +kernel
theorem dX7_toldBy_0 : decode cX7_toldBy 0 = .ok (.iload_n 1, 1) := by decide +kernel
theorem dX7_toldBy_1 : decode cX7_toldBy 1 = .ok (.invokestatic 316, 3) := by decide +kernel
theorem dX7_toldBy_4 : decode cX7_toldBy 4 = .ok (.ifCond .eq 13, 3) := by decide +kernel
theorem dX7_toldBy_7 : decode cX7_toldBy 7 = .ok (.iload_n 2, 1) := by decide +kernel
theorem dX7_toldBy_8 : decode cX7_toldBy 8 = .ok (.i2l, 1) := by decide +kernel
theorem dX7_toldBy_9 : decode cX7_toldBy 9 = .ok (.lconst 0, 1) := by decide +kernel
theorem dX7_toldBy_10 : decode cX7_toldBy 10 = .ok (.lconst 1, 1) := by decide +kernel
theorem dX7_toldBy_11 : decode cX7_toldBy 11 = .ok (.invokestatic 68, 3) := by decide +kernel
theorem dX7_toldBy_14 : decode cX7_toldBy 14 = .ok (.ifCond .ne 6, 3) := by decide +kernel
theorem dX7_toldBy_17 : decode cX7_toldBy 17 = .ok (.ldc 87, 2) := by decide +kernel
theorem dX7_toldBy_19 : decode cX7_toldBy 19 = .ok (.ireturn, 1) := by decide +kernel
theorem dX7_toldBy_20 : decode cX7_toldBy 20 = .ok (.aload_n 0, 1) := by decide +kernel
theorem dX7_toldBy_21 : decode cX7_toldBy 21 = .ok (.getfield 19, 3) := by decide +kernel
theorem dX7_toldBy_24 : decode cX7_toldBy 24 = .ok (.iload_n 1, 1) := by decide +kernel
theorem dX7_toldBy_25 : decode cX7_toldBy 25 = .ok (.iaload, 1) := by decide +kernel
theorem dX7_toldBy_26 : decode cX7_toldBy 26 = .ok (.ifCond .ge 7, 3) := by decide +kernel
theorem dX7_toldBy_29 : decode cX7_toldBy 29 = .ok (.ldc_w 322, 3) := by decide +kernel
theorem dX7_toldBy_32 : decode cX7_toldBy 32 = .ok (.ireturn, 1) := by decide +kernel
theorem dX7_toldBy_33 : decode cX7_toldBy 33 = .ok (.aload_n 0, 1) := by decide +kernel
theorem dX7_toldBy_34 : decode cX7_toldBy 34 = .ok (.invokevirtual 193, 3) := by decide +kernel
theorem dX7_toldBy_37 : decode cX7_toldBy 37 = .ok (.iconst (-1), 1) := by decide +kernel
theorem dX7_toldBy_38 : decode cX7_toldBy 38 = .ok (.istore_n 3, 1) := by decide +kernel
theorem dX7_toldBy_39 : decode cX7_toldBy 39 = .ok (.iconst 0, 1) := by decide +kernel
theorem dX7_toldBy_40 : decode cX7_toldBy 40 = .ok (.istore 4, 2) := by decide +kernel
theorem dX7_toldBy_42 : decode cX7_toldBy 42 = .ok (.iconst 0, 1) := by decide +kernel
theorem dX7_toldBy_43 : decode cX7_toldBy 43 = .ok (.istore 5, 2) := by decide +kernel
theorem dX7_toldBy_45 : decode cX7_toldBy 45 = .ok (.iload 5, 2) := by decide +kernel
theorem dX7_toldBy_47 : decode cX7_toldBy 47 = .ok (.aload_n 0, 1) := by decide +kernel
theorem dX7_toldBy_48 : decode cX7_toldBy 48 = .ok (.getfield 7, 3) := by decide +kernel
theorem dX7_toldBy_51 : decode cX7_toldBy 51 = .ok (.iconst 0, 1) := by decide +kernel
theorem dX7_toldBy_52 : decode cX7_toldBy 52 = .ok (.iaload, 1) := by decide +kernel
theorem dX7_toldBy_53 : decode cX7_toldBy 53 = .ok (.if_icmp .ge 100, 3) := by decide +kernel
theorem dX7_toldBy_56 : decode cX7_toldBy 56 = .ok (.iconst 0, 1) := by decide +kernel
theorem dX7_toldBy_57 : decode cX7_toldBy 57 = .ok (.istore 6, 2) := by decide +kernel
theorem dX7_toldBy_59 : decode cX7_toldBy 59 = .ok (.iconst 0, 1) := by decide +kernel
theorem dX7_toldBy_60 : decode cX7_toldBy 60 = .ok (.istore 7, 2) := by decide +kernel
theorem dX7_toldBy_62 : decode cX7_toldBy 62 = .ok (.iload 7, 2) := by decide +kernel
theorem dX7_toldBy_64 : decode cX7_toldBy 64 = .ok (.aload_n 0, 1) := by decide +kernel
theorem dX7_toldBy_65 : decode cX7_toldBy 65 = .ok (.getfield 22, 3) := by decide +kernel
theorem dX7_toldBy_68 : decode cX7_toldBy 68 = .ok (.iload_n 1, 1) := by decide +kernel
theorem dX7_toldBy_69 : decode cX7_toldBy 69 = .ok (.iaload, 1) := by decide +kernel
theorem dX7_toldBy_70 : decode cX7_toldBy 70 = .ok (.if_icmp .ge 55, 3) := by decide +kernel
theorem dX7_toldBy_73 : decode cX7_toldBy 73 = .ok (.aload_n 0, 1) := by decide +kernel
theorem dX7_toldBy_74 : decode cX7_toldBy 74 = .ok (.getfield 25, 3) := by decide +kernel
theorem dX7_toldBy_77 : decode cX7_toldBy 77 = .ok (.bipush 24, 2) := by decide +kernel
theorem dX7_toldBy_79 : decode cX7_toldBy 79 = .ok (.iload_n 1, 1) := by decide +kernel
theorem dX7_toldBy_80 : decode cX7_toldBy 80 = .ok (.imul, 1) := by decide +kernel
theorem dX7_toldBy_81 : decode cX7_toldBy 81 = .ok (.iload 7, 2) := by decide +kernel
theorem dX7_toldBy_83 : decode cX7_toldBy 83 = .ok (.iadd, 1) := by decide +kernel
theorem dX7_toldBy_84 : decode cX7_toldBy 84 = .ok (.iaload, 1) := by decide +kernel
theorem dX7_toldBy_85 : decode cX7_toldBy 85 = .ok (.istore 8, 2) := by decide +kernel
theorem dX7_toldBy_87 : decode cX7_toldBy 87 = .ok (.iload 6, 2) := by decide +kernel
theorem dX7_toldBy_89 : decode cX7_toldBy 89 = .ok (.iload 8, 2) := by decide +kernel
theorem dX7_toldBy_91 : decode cX7_toldBy 91 = .ok (.ldc 67, 2) := by decide +kernel
theorem dX7_toldBy_93 : decode cX7_toldBy 93 = .ok (.if_icmp .ne 7, 3) := by decide +kernel
theorem dX7_toldBy_96 : decode cX7_toldBy 96 = .ok (.iconst 0, 1) := by decide +kernel
theorem dX7_toldBy_97 : decode cX7_toldBy 97 = .ok (.goto 15, 3) := by decide +kernel
theorem dX7_toldBy_100 : decode cX7_toldBy 100 = .ok (.iload 8, 2) := by decide +kernel
theorem dX7_toldBy_102 : decode cX7_toldBy 102 = .ok (.aload_n 0, 1) := by decide +kernel
theorem dX7_toldBy_103 : decode cX7_toldBy 103 = .ok (.iload 5, 2) := by decide +kernel
theorem dX7_toldBy_105 : decode cX7_toldBy 105 = .ok (.iconst 3, 1) := by decide +kernel
theorem dX7_toldBy_106 : decode cX7_toldBy 106 = .ok (.invokevirtual 97, 3) := by decide +kernel
theorem dX7_toldBy_109 : decode cX7_toldBy 109 = .ok (.invokestatic 113, 3) := by decide +kernel
theorem dX7_toldBy_112 : decode cX7_toldBy 112 = .ok (.iadd, 1) := by decide +kernel
theorem dX7_toldBy_113 : decode cX7_toldBy 113 = .ok (.istore 6, 2) := by decide +kernel
theorem dX7_toldBy_115 : decode cX7_toldBy 115 = .ok (.aload_n 0, 1) := by decide +kernel
theorem dX7_toldBy_116 : decode cX7_toldBy 116 = .ok (.invokevirtual 163, 3) := by decide +kernel
theorem dX7_toldBy_119 : decode cX7_toldBy 119 = .ok (.iinc 7 1, 3) := by decide +kernel
theorem dX7_toldBy_122 : decode cX7_toldBy 122 = .ok (.goto (-60), 3) := by decide +kernel
theorem dX7_toldBy_125 : decode cX7_toldBy 125 = .ok (.aload_n 0, 1) := by decide +kernel
theorem dX7_toldBy_126 : decode cX7_toldBy 126 = .ok (.invokevirtual 196, 3) := by decide +kernel
theorem dX7_toldBy_129 : decode cX7_toldBy 129 = .ok (.iload_n 3, 1) := by decide +kernel
theorem dX7_toldBy_130 : decode cX7_toldBy 130 = .ok (.ifCond .lt 10, 3) := by decide +kernel
theorem dX7_toldBy_133 : decode cX7_toldBy 133 = .ok (.iload 6, 2) := by decide +kernel
theorem dX7_toldBy_135 : decode cX7_toldBy 135 = .ok (.iload 4, 2) := by decide +kernel
theorem dX7_toldBy_137 : decode cX7_toldBy 137 = .ok (.if_icmp .ge 10, 3) := by decide +kernel
theorem dX7_toldBy_140 : decode cX7_toldBy 140 = .ok (.iload 5, 2) := by decide +kernel
theorem dX7_toldBy_142 : decode cX7_toldBy 142 = .ok (.istore_n 3, 1) := by decide +kernel
theorem dX7_toldBy_143 : decode cX7_toldBy 143 = .ok (.iload 6, 2) := by decide +kernel
theorem dX7_toldBy_145 : decode cX7_toldBy 145 = .ok (.istore 4, 2) := by decide +kernel
theorem dX7_toldBy_147 : decode cX7_toldBy 147 = .ok (.iinc 5 1, 3) := by decide +kernel
theorem dX7_toldBy_150 : decode cX7_toldBy 150 = .ok (.goto (-105), 3) := by decide +kernel
theorem dX7_toldBy_153 : decode cX7_toldBy 153 = .ok (.iload_n 3, 1) := by decide +kernel
theorem dX7_toldBy_154 : decode cX7_toldBy 154 = .ok (.ifCond .ge 8, 3) := by decide +kernel
theorem dX7_toldBy_157 : decode cX7_toldBy 157 = .ok (.ldc 67, 2) := by decide +kernel
theorem dX7_toldBy_159 : decode cX7_toldBy 159 = .ok (.goto 13, 3) := by decide +kernel
theorem dX7_toldBy_162 : decode cX7_toldBy 162 = .ok (.iload_n 2, 1) := by decide +kernel
theorem dX7_toldBy_163 : decode cX7_toldBy 163 = .ok (.ifCond .ne 7, 3) := by decide +kernel
theorem dX7_toldBy_166 : decode cX7_toldBy 166 = .ok (.iload_n 3, 1) := by decide +kernel
theorem dX7_toldBy_167 : decode cX7_toldBy 167 = .ok (.goto 5, 3) := by decide +kernel
theorem dX7_toldBy_170 : decode cX7_toldBy 170 = .ok (.iload 4, 2) := by decide +kernel
theorem dX7_toldBy_172 : decode cX7_toldBy 172 = .ok (.ireturn, 1) := by decide +kernel
theorem dX7_copy_0 : decode cX7_copy 0 = .ok (.iload_n 1, 1) := by decide +kernel
theorem dX7_copy_1 : decode cX7_copy 1 = .ok (.invokestatic 316, 3) := by decide +kernel
theorem dX7_copy_4 : decode cX7_copy 4 = .ok (.ifCond .eq 10, 3) := by decide +kernel
theorem dX7_copy_7 : decode cX7_copy 7 = .ok (.iload_n 3, 1) := by decide +kernel
theorem dX7_copy_8 : decode cX7_copy 8 = .ok (.invokestatic 316, 3) := by decide +kernel
theorem dX7_copy_11 : decode cX7_copy 11 = .ok (.ifCond .ne 6, 3) := by decide +kernel
theorem dX7_copy_14 : decode cX7_copy 14 = .ok (.ldc 87, 2) := by decide +kernel
theorem dX7_copy_16 : decode cX7_copy 16 = .ok (.ireturn, 1) := by decide +kernel
theorem dX7_copy_17 : decode cX7_copy 17 = .ok (.aload_n 0, 1) := by decide +kernel
theorem dX7_copy_18 : decode cX7_copy 18 = .ok (.getfield 19, 3) := by decide +kernel
theorem dX7_copy_21 : decode cX7_copy 21 = .ok (.iload_n 1, 1) := by decide +kernel
theorem dX7_copy_22 : decode cX7_copy 22 = .ok (.iaload, 1) := by decide +kernel
theorem dX7_copy_23 : decode cX7_copy 23 = .ok (.ifCond .lt 12, 3) := by decide +kernel
theorem dX7_copy_26 : decode cX7_copy 26 = .ok (.aload_n 0, 1) := by decide +kernel
theorem dX7_copy_27 : decode cX7_copy 27 = .ok (.getfield 19, 3) := by decide +kernel
theorem dX7_copy_30 : decode cX7_copy 30 = .ok (.iload_n 3, 1) := by decide +kernel
theorem dX7_copy_31 : decode cX7_copy 31 = .ok (.iaload, 1) := by decide +kernel
theorem dX7_copy_32 : decode cX7_copy 32 = .ok (.ifCond .ge 7, 3) := by decide +kernel
theorem dX7_copy_35 : decode cX7_copy 35 = .ok (.ldc_w 322, 3) := by decide +kernel
theorem dX7_copy_38 : decode cX7_copy 38 = .ok (.ireturn, 1) := by decide +kernel
theorem dX7_copy_39 : decode cX7_copy 39 = .ok (.aload_n 0, 1) := by decide +kernel
theorem dX7_copy_40 : decode cX7_copy 40 = .ok (.getfield 19, 3) := by decide +kernel
theorem dX7_copy_43 : decode cX7_copy 43 = .ok (.iload_n 1, 1) := by decide +kernel
theorem dX7_copy_44 : decode cX7_copy 44 = .ok (.iaload, 1) := by decide +kernel
theorem dX7_copy_45 : decode cX7_copy 45 = .ok (.aload_n 0, 1) := by decide +kernel
theorem dX7_copy_46 : decode cX7_copy 46 = .ok (.getfield 19, 3) := by decide +kernel
theorem dX7_copy_49 : decode cX7_copy 49 = .ok (.iload_n 3, 1) := by decide +kernel
theorem dX7_copy_50 : decode cX7_copy 50 = .ok (.iaload, 1) := by decide +kernel
theorem dX7_copy_51 : decode cX7_copy 51 = .ok (.if_icmp .eq 6, 3) := by decide +kernel
theorem dX7_copy_54 : decode cX7_copy 54 = .ok (.ldc 129, 2) := by decide +kernel
theorem dX7_copy_56 : decode cX7_copy 56 = .ok (.ireturn, 1) := by decide +kernel
theorem dX7_copy_57 : decode cX7_copy 57 = .ok (.iload_n 2, 1) := by decide +kernel
theorem dX7_copy_58 : decode cX7_copy 58 = .ok (.ifCond .lt 48, 3) := by decide +kernel
theorem dX7_copy_61 : decode cX7_copy 61 = .ok (.iload 4, 2) := by decide +kernel
theorem dX7_copy_63 : decode cX7_copy 63 = .ok (.ifCond .lt 43, 3) := by decide +kernel
theorem dX7_copy_66 : decode cX7_copy 66 = .ok (.iload 5, 2) := by decide +kernel
theorem dX7_copy_68 : decode cX7_copy 68 = .ok (.ifCond .lt 38, 3) := by decide +kernel
theorem dX7_copy_71 : decode cX7_copy 71 = .ok (.iload_n 2, 1) := by decide +kernel
theorem dX7_copy_72 : decode cX7_copy 72 = .ok (.i2l, 1) := by decide +kernel
theorem dX7_copy_73 : decode cX7_copy 73 = .ok (.iload 5, 2) := by decide +kernel
theorem dX7_copy_75 : decode cX7_copy 75 = .ok (.i2l, 1) := by decide +kernel
theorem dX7_copy_76 : decode cX7_copy 76 = .ok (.ladd, 1) := by decide +kernel
theorem dX7_copy_77 : decode cX7_copy 77 = .ok (.aload_n 0, 1) := by decide +kernel
theorem dX7_copy_78 : decode cX7_copy 78 = .ok (.getfield 22, 3) := by decide +kernel
theorem dX7_copy_81 : decode cX7_copy 81 = .ok (.iload_n 1, 1) := by decide +kernel
theorem dX7_copy_82 : decode cX7_copy 82 = .ok (.iaload, 1) := by decide +kernel
theorem dX7_copy_83 : decode cX7_copy 83 = .ok (.i2l, 1) := by decide +kernel
theorem dX7_copy_84 : decode cX7_copy 84 = .ok (.lcmp, 1) := by decide +kernel
theorem dX7_copy_85 : decode cX7_copy 85 = .ok (.ifCond .gt 21, 3) := by decide +kernel
theorem dX7_copy_88 : decode cX7_copy 88 = .ok (.iload 4, 2) := by decide +kernel
theorem dX7_copy_90 : decode cX7_copy 90 = .ok (.i2l, 1) := by decide +kernel
theorem dX7_copy_91 : decode cX7_copy 91 = .ok (.iload 5, 2) := by decide +kernel
theorem dX7_copy_93 : decode cX7_copy 93 = .ok (.i2l, 1) := by decide +kernel
theorem dX7_copy_94 : decode cX7_copy 94 = .ok (.ladd, 1) := by decide +kernel
theorem dX7_copy_95 : decode cX7_copy 95 = .ok (.aload_n 0, 1) := by decide +kernel
theorem dX7_copy_96 : decode cX7_copy 96 = .ok (.getfield 22, 3) := by decide +kernel
theorem dX7_copy_99 : decode cX7_copy 99 = .ok (.iload_n 3, 1) := by decide +kernel
theorem dX7_copy_100 : decode cX7_copy 100 = .ok (.iaload, 1) := by decide +kernel
theorem dX7_copy_101 : decode cX7_copy 101 = .ok (.i2l, 1) := by decide +kernel
theorem dX7_copy_102 : decode cX7_copy 102 = .ok (.lcmp, 1) := by decide +kernel
theorem dX7_copy_103 : decode cX7_copy 103 = .ok (.ifCond .le 7, 3) := by decide +kernel
theorem dX7_copy_106 : decode cX7_copy 106 = .ok (.ldc_w 323, 3) := by decide +kernel
theorem dX7_copy_109 : decode cX7_copy 109 = .ok (.ireturn, 1) := by decide +kernel
theorem dX7_copy_110 : decode cX7_copy 110 = .ok (.iconst 0, 1) := by decide +kernel
theorem dX7_copy_111 : decode cX7_copy 111 = .ok (.istore 6, 2) := by decide +kernel
theorem dX7_copy_113 : decode cX7_copy 113 = .ok (.iload 6, 2) := by decide +kernel
theorem dX7_copy_115 : decode cX7_copy 115 = .ok (.iload 5, 2) := by decide +kernel
theorem dX7_copy_117 : decode cX7_copy 117 = .ok (.if_icmp .ge 30, 3) := by decide +kernel
theorem dX7_copy_120 : decode cX7_copy 120 = .ok (.aload_n 0, 1) := by decide +kernel
theorem dX7_copy_121 : decode cX7_copy 121 = .ok (.getfield 58, 3) := by decide +kernel
theorem dX7_copy_124 : decode cX7_copy 124 = .ok (.iload 6, 2) := by decide +kernel
theorem dX7_copy_126 : decode cX7_copy 126 = .ok (.aload_n 0, 1) := by decide +kernel
theorem dX7_copy_127 : decode cX7_copy 127 = .ok (.getfield 25, 3) := by decide +kernel
theorem dX7_copy_130 : decode cX7_copy 130 = .ok (.bipush 24, 2) := by decide +kernel
theorem dX7_copy_132 : decode cX7_copy 132 = .ok (.iload_n 1, 1) := by decide +kernel
theorem dX7_copy_133 : decode cX7_copy 133 = .ok (.imul, 1) := by decide +kernel
theorem dX7_copy_134 : decode cX7_copy 134 = .ok (.iload_n 2, 1) := by decide +kernel
theorem dX7_copy_135 : decode cX7_copy 135 = .ok (.iadd, 1) := by decide +kernel
theorem dX7_copy_136 : decode cX7_copy 136 = .ok (.iload 6, 2) := by decide +kernel
theorem dX7_copy_138 : decode cX7_copy 138 = .ok (.iadd, 1) := by decide +kernel
theorem dX7_copy_139 : decode cX7_copy 139 = .ok (.iaload, 1) := by decide +kernel
theorem dX7_copy_140 : decode cX7_copy 140 = .ok (.iastore, 1) := by decide +kernel
theorem dX7_copy_141 : decode cX7_copy 141 = .ok (.iinc 6 1, 3) := by decide +kernel
theorem dX7_copy_144 : decode cX7_copy 144 = .ok (.goto (-31), 3) := by decide +kernel
theorem dX7_copy_147 : decode cX7_copy 147 = .ok (.iconst 0, 1) := by decide +kernel
theorem dX7_copy_148 : decode cX7_copy 148 = .ok (.istore 6, 2) := by decide +kernel
theorem dX7_copy_150 : decode cX7_copy 150 = .ok (.iload 6, 2) := by decide +kernel
theorem dX7_copy_152 : decode cX7_copy 152 = .ok (.iload 5, 2) := by decide +kernel
theorem dX7_copy_154 : decode cX7_copy 154 = .ok (.if_icmp .ge 31, 3) := by decide +kernel
theorem dX7_copy_157 : decode cX7_copy 157 = .ok (.aload_n 0, 1) := by decide +kernel
theorem dX7_copy_158 : decode cX7_copy 158 = .ok (.getfield 25, 3) := by decide +kernel
theorem dX7_copy_161 : decode cX7_copy 161 = .ok (.bipush 24, 2) := by decide +kernel
theorem dX7_copy_163 : decode cX7_copy 163 = .ok (.iload_n 3, 1) := by decide +kernel
theorem dX7_copy_164 : decode cX7_copy 164 = .ok (.imul, 1) := by decide +kernel
theorem dX7_copy_165 : decode cX7_copy 165 = .ok (.iload 4, 2) := by decide +kernel
theorem dX7_copy_167 : decode cX7_copy 167 = .ok (.iadd, 1) := by decide +kernel
theorem dX7_copy_168 : decode cX7_copy 168 = .ok (.iload 6, 2) := by decide +kernel
theorem dX7_copy_170 : decode cX7_copy 170 = .ok (.iadd, 1) := by decide +kernel
theorem dX7_copy_171 : decode cX7_copy 171 = .ok (.aload_n 0, 1) := by decide +kernel
theorem dX7_copy_172 : decode cX7_copy 172 = .ok (.getfield 58, 3) := by decide +kernel
theorem dX7_copy_175 : decode cX7_copy 175 = .ok (.iload 6, 2) := by decide +kernel
theorem dX7_copy_177 : decode cX7_copy 177 = .ok (.iaload, 1) := by decide +kernel
theorem dX7_copy_178 : decode cX7_copy 178 = .ok (.iastore, 1) := by decide +kernel
theorem dX7_copy_179 : decode cX7_copy 179 = .ok (.iinc 6 1, 3) := by decide +kernel
theorem dX7_copy_182 : decode cX7_copy 182 = .ok (.goto (-32), 3) := by decide +kernel
theorem dX7_copy_185 : decode cX7_copy 185 = .ok (.iload 5, 2) := by decide +kernel
theorem dX7_copy_187 : decode cX7_copy 187 = .ok (.ireturn, 1) := by decide +kernel
theorem dX7_isSlot_0 : decode cX7_isSlot 0 = .ok (.iload_n 0, 1) := by decide +kernel
theorem dX7_isSlot_1 : decode cX7_isSlot 1 = .ok (.i2l, 1) := by decide +kernel
theorem dX7_isSlot_2 : decode cX7_isSlot 2 = .ok (.lconst 0, 1) := by decide +kernel
theorem dX7_isSlot_3 : decode cX7_isSlot 3 = .ok (.ldc2_w 199, 3) := by decide +kernel
theorem dX7_isSlot_6 : decode cX7_isSlot 6 = .ok (.invokestatic 68, 3) := by decide +kernel
theorem dX7_isSlot_9 : decode cX7_isSlot 9 = .ok (.ireturn, 1) := by decide +kernel
theorem dX7_lay_0 : decode cX7_lay 0 = .ok (.iload_n 2, 1) := by decide +kernel
theorem dX7_lay_1 : decode cX7_lay 1 = .ok (.ifCond .eq 33, 3) := by decide +kernel
theorem dX7_lay_4 : decode cX7_lay 4 = .ok (.iload_n 2, 1) := by decide +kernel
theorem dX7_lay_5 : decode cX7_lay 5 = .ok (.iconst 3, 1) := by decide +kernel
theorem dX7_lay_6 : decode cX7_lay 6 = .ok (.if_icmp .eq 28, 3) := by decide +kernel
theorem dX7_lay_9 : decode cX7_lay 9 = .ok (.iload_n 2, 1) := by decide +kernel
theorem dX7_lay_10 : decode cX7_lay 10 = .ok (.iconst 1, 1) := by decide +kernel
theorem dX7_lay_11 : decode cX7_lay 11 = .ok (.if_icmp .ne 11, 3) := by decide +kernel
theorem dX7_lay_14 : decode cX7_lay 14 = .ok (.aload_n 0, 1) := by decide +kernel
theorem dX7_lay_15 : decode cX7_lay 15 = .ok (.iload_n 3, 1) := by decide +kernel
theorem dX7_lay_16 : decode cX7_lay 16 = .ok (.invokevirtual 117, 3) := by decide +kernel
theorem dX7_lay_19 : decode cX7_lay 19 = .ok (.ifCond .ne 15, 3) := by decide +kernel
theorem dX7_lay_22 : decode cX7_lay 22 = .ok (.iload_n 2, 1) := by decide +kernel
theorem dX7_lay_23 : decode cX7_lay 23 = .ok (.iconst 2, 1) := by decide +kernel
theorem dX7_lay_24 : decode cX7_lay 24 = .ok (.if_icmp .ne 14, 3) := by decide +kernel
theorem dX7_lay_27 : decode cX7_lay 27 = .ok (.iload_n 3, 1) := by decide +kernel
theorem dX7_lay_28 : decode cX7_lay 28 = .ok (.invokestatic 316, 3) := by decide +kernel
theorem dX7_lay_31 : decode cX7_lay 31 = .ok (.ifCond .eq 7, 3) := by decide +kernel
theorem dX7_lay_34 : decode cX7_lay 34 = .ok (.iconst 1, 1) := by decide +kernel
theorem dX7_lay_35 : decode cX7_lay 35 = .ok (.goto 4, 3) := by decide +kernel
theorem dX7_lay_38 : decode cX7_lay 38 = .ok (.iconst 0, 1) := by decide +kernel
theorem dX7_lay_39 : decode cX7_lay 39 = .ok (.istore 4, 2) := by decide +kernel
theorem dX7_lay_41 : decode cX7_lay 41 = .ok (.iload_n 1, 1) := by decide +kernel
theorem dX7_lay_42 : decode cX7_lay 42 = .ok (.invokestatic 328, 3) := by decide +kernel
theorem dX7_lay_45 : decode cX7_lay 45 = .ok (.ifCond .eq 8, 3) := by decide +kernel
theorem dX7_lay_48 : decode cX7_lay 48 = .ok (.iload 4, 2) := by decide +kernel
theorem dX7_lay_50 : decode cX7_lay 50 = .ok (.ifCond .ne 6, 3) := by decide +kernel
theorem dX7_lay_53 : decode cX7_lay 53 = .ok (.ldc 87, 2) := by decide +kernel
theorem dX7_lay_55 : decode cX7_lay 55 = .ok (.ireturn, 1) := by decide +kernel
theorem dX7_lay_56 : decode cX7_lay 56 = .ok (.iload_n 2, 1) := by decide +kernel
theorem dX7_lay_57 : decode cX7_lay 57 = .ok (.iconst 2, 1) := by decide +kernel
theorem dX7_lay_58 : decode cX7_lay 58 = .ok (.if_icmp .ne 16, 3) := by decide +kernel
theorem dX7_lay_61 : decode cX7_lay 61 = .ok (.aload_n 0, 1) := by decide +kernel
theorem dX7_lay_62 : decode cX7_lay 62 = .ok (.getfield 19, 3) := by decide +kernel
theorem dX7_lay_65 : decode cX7_lay 65 = .ok (.iload_n 3, 1) := by decide +kernel
theorem dX7_lay_66 : decode cX7_lay 66 = .ok (.iaload, 1) := by decide +kernel
theorem dX7_lay_67 : decode cX7_lay 67 = .ok (.ifCond .ge 7, 3) := by decide +kernel
theorem dX7_lay_70 : decode cX7_lay 70 = .ok (.ldc_w 322, 3) := by decide +kernel
theorem dX7_lay_73 : decode cX7_lay 73 = .ok (.ireturn, 1) := by decide +kernel
theorem dX7_lay_74 : decode cX7_lay 74 = .ok (.aload_n 0, 1) := by decide +kernel
theorem dX7_lay_75 : decode cX7_lay 75 = .ok (.getfield 28, 3) := by decide +kernel
theorem dX7_lay_78 : decode cX7_lay 78 = .ok (.iload_n 1, 1) := by decide +kernel
theorem dX7_lay_79 : decode cX7_lay 79 = .ok (.iaload, 1) := by decide +kernel
theorem dX7_lay_80 : decode cX7_lay 80 = .ok (.istore 5, 2) := by decide +kernel
theorem dX7_lay_82 : decode cX7_lay 82 = .ok (.aload_n 0, 1) := by decide +kernel
theorem dX7_lay_83 : decode cX7_lay 83 = .ok (.getfield 28, 3) := by decide +kernel
theorem dX7_lay_86 : decode cX7_lay 86 = .ok (.iload_n 1, 1) := by decide +kernel
theorem dX7_lay_87 : decode cX7_lay 87 = .ok (.iload_n 2, 1) := by decide +kernel
theorem dX7_lay_88 : decode cX7_lay 88 = .ok (.iastore, 1) := by decide +kernel
theorem dX7_lay_89 : decode cX7_lay 89 = .ok (.aload_n 0, 1) := by decide +kernel
theorem dX7_lay_90 : decode cX7_lay 90 = .ok (.getfield 31, 3) := by decide +kernel
theorem dX7_lay_93 : decode cX7_lay 93 = .ok (.iload_n 1, 1) := by decide +kernel
theorem dX7_lay_94 : decode cX7_lay 94 = .ok (.iload_n 2, 1) := by decide +kernel
theorem dX7_lay_95 : decode cX7_lay 95 = .ok (.iconst 1, 1) := by decide +kernel
theorem dX7_lay_96 : decode cX7_lay 96 = .ok (.if_icmp .ne 12, 3) := by decide +kernel
theorem dX7_lay_99 : decode cX7_lay 99 = .ok (.aload_n 0, 1) := by decide +kernel
theorem dX7_lay_100 : decode cX7_lay 100 = .ok (.iload_n 3, 1) := by decide +kernel
theorem dX7_lay_101 : decode cX7_lay 101 = .ok (.iconst 0, 1) := by decide +kernel
theorem dX7_lay_102 : decode cX7_lay 102 = .ok (.invokevirtual 97, 3) := by decide +kernel
theorem dX7_lay_105 : decode cX7_lay 105 = .ok (.goto 4, 3) := by decide +kernel
theorem dX7_lay_108 : decode cX7_lay 108 = .ok (.iload_n 3, 1) := by decide +kernel
theorem dX7_lay_109 : decode cX7_lay 109 = .ok (.iastore, 1) := by decide +kernel
theorem dX7_lay_110 : decode cX7_lay 110 = .ok (.aload_n 0, 1) := by decide +kernel
theorem dX7_lay_111 : decode cX7_lay 111 = .ok (.getfield 34, 3) := by decide +kernel
theorem dX7_lay_114 : decode cX7_lay 114 = .ok (.iload_n 1, 1) := by decide +kernel
theorem dX7_lay_115 : decode cX7_lay 115 = .ok (.iload_n 2, 1) := by decide +kernel
theorem dX7_lay_116 : decode cX7_lay 116 = .ok (.iconst 1, 1) := by decide +kernel
theorem dX7_lay_117 : decode cX7_lay 117 = .ok (.if_icmp .ne 11, 3) := by decide +kernel
theorem dX7_lay_120 : decode cX7_lay 120 = .ok (.aload_n 0, 1) := by decide +kernel
theorem dX7_lay_121 : decode cX7_lay 121 = .ok (.iload_n 3, 1) := by decide +kernel
theorem dX7_lay_122 : decode cX7_lay 122 = .ok (.invokevirtual 122, 3) := by decide +kernel
theorem dX7_lay_125 : decode cX7_lay 125 = .ok (.goto 4, 3) := by decide +kernel
theorem dX7_lay_128 : decode cX7_lay 128 = .ok (.iconst 0, 1) := by decide +kernel
theorem dX7_lay_129 : decode cX7_lay 129 = .ok (.iastore, 1) := by decide +kernel
theorem dX7_lay_130 : decode cX7_lay 130 = .ok (.iload_n 2, 1) := by decide +kernel
theorem dX7_lay_131 : decode cX7_lay 131 = .ok (.iconst 2, 1) := by decide +kernel
theorem dX7_lay_132 : decode cX7_lay 132 = .ok (.if_icmp .ne 55, 3) := by decide +kernel
theorem dX7_lay_135 : decode cX7_lay 135 = .ok (.aload_n 0, 1) := by decide +kernel
theorem dX7_lay_136 : decode cX7_lay 136 = .ok (.getfield 37, 3) := by decide +kernel
theorem dX7_lay_139 : decode cX7_lay 139 = .ok (.iload_n 1, 1) := by decide +kernel
theorem dX7_lay_140 : decode cX7_lay 140 = .ok (.aload_n 0, 1) := by decide +kernel
theorem dX7_lay_141 : decode cX7_lay 141 = .ok (.getfield 22, 3) := by decide +kernel
theorem dX7_lay_144 : decode cX7_lay 144 = .ok (.iload_n 3, 1) := by decide +kernel
theorem dX7_lay_145 : decode cX7_lay 145 = .ok (.iaload, 1) := by decide +kernel
theorem dX7_lay_146 : decode cX7_lay 146 = .ok (.iastore, 1) := by decide +kernel
theorem dX7_lay_147 : decode cX7_lay 147 = .ok (.iconst 0, 1) := by decide +kernel
theorem dX7_lay_148 : decode cX7_lay 148 = .ok (.istore 6, 2) := by decide +kernel
theorem dX7_lay_150 : decode cX7_lay 150 = .ok (.iload 6, 2) := by decide +kernel
theorem dX7_lay_152 : decode cX7_lay 152 = .ok (.bipush 24, 2) := by decide +kernel
theorem dX7_lay_154 : decode cX7_lay 154 = .ok (.if_icmp .ge 33, 3) := by decide +kernel
theorem dX7_lay_157 : decode cX7_lay 157 = .ok (.aload_n 0, 1) := by decide +kernel
theorem dX7_lay_158 : decode cX7_lay 158 = .ok (.getfield 40, 3) := by decide +kernel
theorem dX7_lay_161 : decode cX7_lay 161 = .ok (.bipush 24, 2) := by decide +kernel
theorem dX7_lay_163 : decode cX7_lay 163 = .ok (.iload_n 1, 1) := by decide +kernel
theorem dX7_lay_164 : decode cX7_lay 164 = .ok (.imul, 1) := by decide +kernel
theorem dX7_lay_165 : decode cX7_lay 165 = .ok (.iload 6, 2) := by decide +kernel
theorem dX7_lay_167 : decode cX7_lay 167 = .ok (.iadd, 1) := by decide +kernel
theorem dX7_lay_168 : decode cX7_lay 168 = .ok (.aload_n 0, 1) := by decide +kernel
theorem dX7_lay_169 : decode cX7_lay 169 = .ok (.getfield 25, 3) := by decide +kernel
theorem dX7_lay_172 : decode cX7_lay 172 = .ok (.bipush 24, 2) := by decide +kernel
theorem dX7_lay_174 : decode cX7_lay 174 = .ok (.iload_n 3, 1) := by decide +kernel
theorem dX7_lay_175 : decode cX7_lay 175 = .ok (.imul, 1) := by decide +kernel
theorem dX7_lay_176 : decode cX7_lay 176 = .ok (.iload 6, 2) := by decide +kernel
theorem dX7_lay_178 : decode cX7_lay 178 = .ok (.iadd, 1) := by decide +kernel
theorem dX7_lay_179 : decode cX7_lay 179 = .ok (.iaload, 1) := by decide +kernel
theorem dX7_lay_180 : decode cX7_lay 180 = .ok (.iastore, 1) := by decide +kernel
theorem dX7_lay_181 : decode cX7_lay 181 = .ok (.iinc 6 1, 3) := by decide +kernel
theorem dX7_lay_184 : decode cX7_lay 184 = .ok (.goto (-34), 3) := by decide +kernel
theorem dX7_lay_187 : decode cX7_lay 187 = .ok (.iload 5, 2) := by decide +kernel
theorem dX7_lay_189 : decode cX7_lay 189 = .ok (.ireturn, 1) := by decide +kernel
theorem dX7_ask_0 : decode cX7_ask 0 = .ok (.iload_n 1, 1) := by decide +kernel
theorem dX7_ask_1 : decode cX7_ask 1 = .ok (.invokestatic 328, 3) := by decide +kernel
theorem dX7_ask_4 : decode cX7_ask 4 = .ok (.ifCond .eq 15, 3) := by decide +kernel
theorem dX7_ask_7 : decode cX7_ask 7 = .ok (.iload_n 2, 1) := by decide +kernel
theorem dX7_ask_8 : decode cX7_ask 8 = .ok (.i2l, 1) := by decide +kernel
theorem dX7_ask_9 : decode cX7_ask 9 = .ok (.lconst 0, 1) := by decide +kernel
theorem dX7_ask_10 : decode cX7_ask 10 = .ok (.ldc2_w 77, 3) := by decide +kernel
theorem dX7_ask_13 : decode cX7_ask 13 = .ok (.invokestatic 68, 3) := by decide +kernel
theorem dX7_ask_16 : decode cX7_ask 16 = .ok (.ifCond .ne 6, 3) := by decide +kernel
theorem dX7_ask_19 : decode cX7_ask 19 = .ok (.ldc 87, 2) := by decide +kernel
theorem dX7_ask_21 : decode cX7_ask 21 = .ok (.ireturn, 1) := by decide +kernel
theorem dX7_ask_22 : decode cX7_ask 22 = .ok (.aload_n 0, 1) := by decide +kernel
theorem dX7_ask_23 : decode cX7_ask 23 = .ok (.getfield 28, 3) := by decide +kernel
theorem dX7_ask_26 : decode cX7_ask 26 = .ok (.iload_n 1, 1) := by decide +kernel
theorem dX7_ask_27 : decode cX7_ask 27 = .ok (.iaload, 1) := by decide +kernel
theorem dX7_ask_28 : decode cX7_ask 28 = .ok (.ifCond .ne 7, 3) := by decide +kernel
theorem dX7_ask_31 : decode cX7_ask 31 = .ok (.ldc_w 322, 3) := by decide +kernel
theorem dX7_ask_34 : decode cX7_ask 34 = .ok (.ireturn, 1) := by decide +kernel
theorem dX7_ask_35 : decode cX7_ask 35 = .ok (.aload_n 0, 1) := by decide +kernel
theorem dX7_ask_36 : decode cX7_ask 36 = .ok (.getfield 28, 3) := by decide +kernel
theorem dX7_ask_39 : decode cX7_ask 39 = .ok (.iload_n 1, 1) := by decide +kernel
theorem dX7_ask_40 : decode cX7_ask 40 = .ok (.iaload, 1) := by decide +kernel
theorem dX7_ask_41 : decode cX7_ask 41 = .ok (.iconst 1, 1) := by decide +kernel
theorem dX7_ask_42 : decode cX7_ask 42 = .ok (.if_icmp .ne 25, 3) := by decide +kernel
theorem dX7_ask_45 : decode cX7_ask 45 = .ok (.aload_n 0, 1) := by decide +kernel
theorem dX7_ask_46 : decode cX7_ask 46 = .ok (.getfield 31, 3) := by decide +kernel
theorem dX7_ask_49 : decode cX7_ask 49 = .ok (.iload_n 1, 1) := by decide +kernel
theorem dX7_ask_50 : decode cX7_ask 50 = .ok (.iaload, 1) := by decide +kernel
theorem dX7_ask_51 : decode cX7_ask 51 = .ok (.iload_n 2, 1) := by decide +kernel
theorem dX7_ask_52 : decode cX7_ask 52 = .ok (.invokestatic 125, 3) := by decide +kernel
theorem dX7_ask_55 : decode cX7_ask 55 = .ok (.ifCond .eq 12, 3) := by decide +kernel
theorem dX7_ask_58 : decode cX7_ask 58 = .ok (.aload_n 0, 1) := by decide +kernel
theorem dX7_ask_59 : decode cX7_ask 59 = .ok (.getfield 34, 3) := by decide +kernel
theorem dX7_ask_62 : decode cX7_ask 62 = .ok (.iload_n 1, 1) := by decide +kernel
theorem dX7_ask_63 : decode cX7_ask 63 = .ok (.iaload, 1) := by decide +kernel
theorem dX7_ask_64 : decode cX7_ask 64 = .ok (.goto 5, 3) := by decide +kernel
theorem dX7_ask_67 : decode cX7_ask 67 = .ok (.ldc 129, 2) := by decide +kernel
theorem dX7_ask_69 : decode cX7_ask 69 = .ok (.ireturn, 1) := by decide +kernel
theorem dX7_item_0 : decode cX7_item 0 = .ok (.iload_n 1, 1) := by decide +kernel
theorem dX7_item_1 : decode cX7_item 1 = .ok (.invokestatic 328, 3) := by decide +kernel
theorem dX7_item_4 : decode cX7_item 4 = .ok (.ifCond .ne 6, 3) := by decide +kernel
theorem dX7_item_7 : decode cX7_item 7 = .ok (.ldc 87, 2) := by decide +kernel
theorem dX7_item_9 : decode cX7_item 9 = .ok (.ireturn, 1) := by decide +kernel
theorem dX7_item_10 : decode cX7_item 10 = .ok (.aload_n 0, 1) := by decide +kernel
theorem dX7_item_11 : decode cX7_item 11 = .ok (.getfield 28, 3) := by decide +kernel
theorem dX7_item_14 : decode cX7_item 14 = .ok (.iload_n 1, 1) := by decide +kernel
theorem dX7_item_15 : decode cX7_item 15 = .ok (.iaload, 1) := by decide +kernel
theorem dX7_item_16 : decode cX7_item 16 = .ok (.iconst 2, 1) := by decide +kernel
theorem dX7_item_17 : decode cX7_item 17 = .ok (.if_icmp .eq 21, 3) := by decide +kernel
theorem dX7_item_20 : decode cX7_item 20 = .ok (.aload_n 0, 1) := by decide +kernel
theorem dX7_item_21 : decode cX7_item 21 = .ok (.getfield 28, 3) := by decide +kernel
theorem dX7_item_24 : decode cX7_item 24 = .ok (.iload_n 1, 1) := by decide +kernel
theorem dX7_item_25 : decode cX7_item 25 = .ok (.iaload, 1) := by decide +kernel
theorem dX7_item_26 : decode cX7_item 26 = .ok (.ifCond .ne 9, 3) := by decide +kernel
theorem dX7_item_29 : decode cX7_item 29 = .ok (.ldc_w 322, 3) := by decide +kernel
theorem dX7_item_32 : decode cX7_item 32 = .ok (.goto 5, 3) := by decide +kernel
theorem dX7_item_35 : decode cX7_item 35 = .ok (.ldc 129, 2) := by decide +kernel
theorem dX7_item_37 : decode cX7_item 37 = .ok (.ireturn, 1) := by decide +kernel
theorem dX7_item_38 : decode cX7_item 38 = .ok (.iload_n 2, 1) := by decide +kernel
theorem dX7_item_39 : decode cX7_item 39 = .ok (.i2l, 1) := by decide +kernel
theorem dX7_item_40 : decode cX7_item 40 = .ok (.lconst 0, 1) := by decide +kernel
theorem dX7_item_41 : decode cX7_item 41 = .ok (.aload_n 0, 1) := by decide +kernel
theorem dX7_item_42 : decode cX7_item 42 = .ok (.getfield 37, 3) := by decide +kernel
theorem dX7_item_45 : decode cX7_item 45 = .ok (.iload_n 1, 1) := by decide +kernel
theorem dX7_item_46 : decode cX7_item 46 = .ok (.iaload, 1) := by decide +kernel
theorem dX7_item_47 : decode cX7_item 47 = .ok (.iconst 1, 1) := by decide +kernel
theorem dX7_item_48 : decode cX7_item 48 = .ok (.isub, 1) := by decide +kernel
theorem dX7_item_49 : decode cX7_item 49 = .ok (.i2l, 1) := by decide +kernel
theorem dX7_item_50 : decode cX7_item 50 = .ok (.invokestatic 68, 3) := by decide +kernel
theorem dX7_item_53 : decode cX7_item 53 = .ok (.ifCond .ne 7, 3) := by decide +kernel
theorem dX7_item_56 : decode cX7_item 56 = .ok (.ldc_w 323, 3) := by decide +kernel
theorem dX7_item_59 : decode cX7_item 59 = .ok (.ireturn, 1) := by decide +kernel
theorem dX7_item_60 : decode cX7_item 60 = .ok (.aload_n 0, 1) := by decide +kernel
theorem dX7_item_61 : decode cX7_item 61 = .ok (.getfield 40, 3) := by decide +kernel
theorem dX7_item_64 : decode cX7_item 64 = .ok (.bipush 24, 2) := by decide +kernel
theorem dX7_item_66 : decode cX7_item 66 = .ok (.iload_n 1, 1) := by decide +kernel
theorem dX7_item_67 : decode cX7_item 67 = .ok (.imul, 1) := by decide +kernel
theorem dX7_item_68 : decode cX7_item 68 = .ok (.iload_n 2, 1) := by decide +kernel
theorem dX7_item_69 : decode cX7_item 69 = .ok (.iadd, 1) := by decide +kernel
theorem dX7_item_70 : decode cX7_item 70 = .ok (.iaload, 1) := by decide +kernel
theorem dX7_item_71 : decode cX7_item 71 = .ok (.istore_n 3, 1) := by decide +kernel
theorem dX7_item_72 : decode cX7_item 72 = .ok (.iload_n 3, 1) := by decide +kernel
theorem dX7_item_73 : decode cX7_item 73 = .ok (.ldc 67, 2) := by decide +kernel
theorem dX7_item_75 : decode cX7_item 75 = .ok (.if_icmp .ne 8, 3) := by decide +kernel
theorem dX7_item_78 : decode cX7_item 78 = .ok (.ldc 129, 2) := by decide +kernel
theorem dX7_item_80 : decode cX7_item 80 = .ok (.goto 4, 3) := by decide +kernel
theorem dX7_item_83 : decode cX7_item 83 = .ok (.iload_n 3, 1) := by decide +kernel
theorem dX7_item_84 : decode cX7_item 84 = .ok (.ireturn, 1) := by decide +kernel
theorem dX7_rest_0 : decode cX7_rest 0 = .ok (.iload_n 1, 1) := by decide +kernel
theorem dX7_rest_1 : decode cX7_rest 1 = .ok (.invokestatic 328, 3) := by decide +kernel
theorem dX7_rest_4 : decode cX7_rest 4 = .ok (.ifCond .ne 6, 3) := by decide +kernel
theorem dX7_rest_7 : decode cX7_rest 7 = .ok (.ldc 87, 2) := by decide +kernel
theorem dX7_rest_9 : decode cX7_rest 9 = .ok (.ireturn, 1) := by decide +kernel
theorem dX7_rest_10 : decode cX7_rest 10 = .ok (.aload_n 0, 1) := by decide +kernel
theorem dX7_rest_11 : decode cX7_rest 11 = .ok (.getfield 28, 3) := by decide +kernel
theorem dX7_rest_14 : decode cX7_rest 14 = .ok (.iload_n 1, 1) := by decide +kernel
theorem dX7_rest_15 : decode cX7_rest 15 = .ok (.iaload, 1) := by decide +kernel
theorem dX7_rest_16 : decode cX7_rest 16 = .ok (.iconst 3, 1) := by decide +kernel
theorem dX7_rest_17 : decode cX7_rest 17 = .ok (.if_icmp .eq 21, 3) := by decide +kernel
theorem dX7_rest_20 : decode cX7_rest 20 = .ok (.aload_n 0, 1) := by decide +kernel
theorem dX7_rest_21 : decode cX7_rest 21 = .ok (.getfield 28, 3) := by decide +kernel
theorem dX7_rest_24 : decode cX7_rest 24 = .ok (.iload_n 1, 1) := by decide +kernel
theorem dX7_rest_25 : decode cX7_rest 25 = .ok (.iaload, 1) := by decide +kernel
theorem dX7_rest_26 : decode cX7_rest 26 = .ok (.ifCond .ne 9, 3) := by decide +kernel
theorem dX7_rest_29 : decode cX7_rest 29 = .ok (.ldc_w 322, 3) := by decide +kernel
theorem dX7_rest_32 : decode cX7_rest 32 = .ok (.goto 5, 3) := by decide +kernel
theorem dX7_rest_35 : decode cX7_rest 35 = .ok (.ldc 129, 2) := by decide +kernel
theorem dX7_rest_37 : decode cX7_rest 37 = .ok (.ireturn, 1) := by decide +kernel
theorem dX7_rest_38 : decode cX7_rest 38 = .ok (.iload_n 2, 1) := by decide +kernel
theorem dX7_rest_39 : decode cX7_rest 39 = .ok (.ifCond .ne 8, 3) := by decide +kernel
theorem dX7_rest_42 : decode cX7_rest 42 = .ok (.ldc 151, 2) := by decide +kernel
theorem dX7_rest_44 : decode cX7_rest 44 = .ok (.goto 11, 3) := by decide +kernel
theorem dX7_rest_47 : decode cX7_rest 47 = .ok (.aload_n 0, 1) := by decide +kernel
theorem dX7_rest_48 : decode cX7_rest 48 = .ok (.getfield 31, 3) := by decide +kernel
theorem dX7_rest_51 : decode cX7_rest 51 = .ok (.iload_n 1, 1) := by decide +kernel
theorem dX7_rest_52 : decode cX7_rest 52 = .ok (.iaload, 1) := by decide +kernel
theorem dX7_rest_53 : decode cX7_rest 53 = .ok (.iload_n 2, 1) := by decide +kernel
theorem dX7_rest_54 : decode cX7_rest 54 = .ok (.irem, 1) := by decide +kernel
theorem dX7_rest_55 : decode cX7_rest 55 = .ok (.ireturn, 1) := by decide +kernel
theorem dX7_tell_0 : decode cX7_tell 0 = .ok (.aload_n 0, 1) := by decide +kernel
theorem dX7_tell_1 : decode cX7_tell 1 = .ok (.getfield 331, 3) := by decide +kernel
theorem dX7_tell_4 : decode cX7_tell 4 = .ok (.bipush 60, 2) := by decide +kernel
theorem dX7_tell_6 : decode cX7_tell 6 = .ok (.if_icmp .ne 6, 3) := by decide +kernel
theorem dX7_tell_9 : decode cX7_tell 9 = .ok (.ldc 88, 2) := by decide +kernel
theorem dX7_tell_11 : decode cX7_tell 11 = .ok (.ireturn, 1) := by decide +kernel
theorem dX7_tell_12 : decode cX7_tell 12 = .ok (.aload_n 0, 1) := by decide +kernel
theorem dX7_tell_13 : decode cX7_tell 13 = .ok (.getfield 61, 3) := by decide +kernel
theorem dX7_tell_16 : decode cX7_tell 16 = .ok (.aload_n 0, 1) := by decide +kernel
theorem dX7_tell_17 : decode cX7_tell 17 = .ok (.getfield 331, 3) := by decide +kernel
theorem dX7_tell_20 : decode cX7_tell 20 = .ok (.iload_n 1, 1) := by decide +kernel
theorem dX7_tell_21 : decode cX7_tell 21 = .ok (.iastore, 1) := by decide +kernel
theorem dX7_tell_22 : decode cX7_tell 22 = .ok (.aload_n 0, 1) := by decide +kernel
theorem dX7_tell_23 : decode cX7_tell 23 = .ok (.dup, 1) := by decide +kernel
theorem dX7_tell_24 : decode cX7_tell 24 = .ok (.getfield 331, 3) := by decide +kernel
theorem dX7_tell_27 : decode cX7_tell 27 = .ok (.iconst 1, 1) := by decide +kernel
theorem dX7_tell_28 : decode cX7_tell 28 = .ok (.iadd, 1) := by decide +kernel
theorem dX7_tell_29 : decode cX7_tell 29 = .ok (.putfield 331, 3) := by decide +kernel
theorem dX7_tell_32 : decode cX7_tell 32 = .ok (.aload_n 0, 1) := by decide +kernel
theorem dX7_tell_33 : decode cX7_tell 33 = .ok (.getfield 331, 3) := by decide +kernel
theorem dX7_tell_36 : decode cX7_tell 36 = .ok (.ireturn, 1) := by decide +kernel
theorem dX7_setAside_0 : decode cX7_setAside 0 = .ok (.iconst 0, 1) := by decide +kernel
theorem dX7_setAside_1 : decode cX7_setAside 1 = .ok (.istore_n 3, 1) := by decide +kernel
theorem dX7_setAside_2 : decode cX7_setAside 2 = .ok (.iload_n 3, 1) := by decide +kernel
theorem dX7_setAside_3 : decode cX7_setAside 3 = .ok (.sipush 2878, 3) := by decide +kernel
theorem dX7_setAside_6 : decode cX7_setAside 6 = .ok (.if_icmp .ge 15, 3) := by decide +kernel
theorem dX7_setAside_9 : decode cX7_setAside 9 = .ok (.aload_n 2, 1) := by decide +kernel
theorem dX7_setAside_10 : decode cX7_setAside 10 = .ok (.iload_n 3, 1) := by decide +kernel
theorem dX7_setAside_11 : decode cX7_setAside 11 = .ok (.aload_n 1, 1) := by decide +kernel
theorem dX7_setAside_12 : decode cX7_setAside 12 = .ok (.iload_n 3, 1) := by decide +kernel
theorem dX7_setAside_13 : decode cX7_setAside 13 = .ok (.iaload, 1) := by decide +kernel
theorem dX7_setAside_14 : decode cX7_setAside 14 = .ok (.iastore, 1) := by decide +kernel
theorem dX7_setAside_15 : decode cX7_setAside 15 = .ok (.iinc 3 1, 3) := by decide +kernel
theorem dX7_setAside_18 : decode cX7_setAside 18 = .ok (.goto (-16), 3) := by decide +kernel
theorem dX7_setAside_21 : decode cX7_setAside 21 = .ok (.return_, 1) := by decide +kernel
theorem dX7_check_0 : decode cX7_check 0 = .ok (.aload_n 0, 1) := by decide +kernel
theorem dX7_check_1 : decode cX7_check 1 = .ok (.getfield 331, 3) := by decide +kernel
theorem dX7_check_4 : decode cX7_check 4 = .ok (.istore_n 2, 1) := by decide +kernel
theorem dX7_check_5 : decode cX7_check 5 = .ok (.aload_n 0, 1) := by decide +kernel
theorem dX7_check_6 : decode cX7_check 6 = .ok (.iconst 0, 1) := by decide +kernel
theorem dX7_check_7 : decode cX7_check 7 = .ok (.putfield 331, 3) := by decide +kernel
theorem dX7_check_10 : decode cX7_check 10 = .ok (.iload_n 1, 1) := by decide +kernel
theorem dX7_check_11 : decode cX7_check 11 = .ok (.i2l, 1) := by decide +kernel
theorem dX7_check_12 : decode cX7_check 12 = .ok (.lconst 1, 1) := by decide +kernel
theorem dX7_check_13 : decode cX7_check 13 = .ok (.ldc2_w 334, 3) := by decide +kernel
theorem dX7_check_16 : decode cX7_check 16 = .ok (.invokestatic 68, 3) := by decide +kernel
theorem dX7_check_19 : decode cX7_check 19 = .ok (.ifCond .ne 6, 3) := by decide +kernel
theorem dX7_check_22 : decode cX7_check 22 = .ok (.ldc 87, 2) := by decide +kernel
theorem dX7_check_24 : decode cX7_check 24 = .ok (.ireturn, 1) := by decide +kernel
theorem dX7_check_25 : decode cX7_check 25 = .ok (.aload_n 0, 1) := by decide +kernel
theorem dX7_check_26 : decode cX7_check 26 = .ok (.getfield 336, 3) := by decide +kernel
theorem dX7_check_29 : decode cX7_check 29 = .ok (.ifCond .ne 6, 3) := by decide +kernel
theorem dX7_check_32 : decode cX7_check 32 = .ok (.ldc 151, 2) := by decide +kernel
theorem dX7_check_34 : decode cX7_check 34 = .ok (.ireturn, 1) := by decide +kernel
theorem dX7_check_35 : decode cX7_check 35 = .ok (.aload_n 0, 1) := by decide +kernel
theorem dX7_check_36 : decode cX7_check 36 = .ok (.aload_n 0, 1) := by decide +kernel
theorem dX7_check_37 : decode cX7_check 37 = .ok (.getfield 7, 3) := by decide +kernel
theorem dX7_check_40 : decode cX7_check 40 = .ok (.aload_n 0, 1) := by decide +kernel
theorem dX7_check_41 : decode cX7_check 41 = .ok (.getfield 16, 3) := by decide +kernel
theorem dX7_check_44 : decode cX7_check 44 = .ok (.invokevirtual 340, 3) := by decide +kernel
theorem dX7_check_47 : decode cX7_check 47 = .ok (.aload_n 0, 1) := by decide +kernel
theorem dX7_check_48 : decode cX7_check 48 = .ok (.aload_n 0, 1) := by decide +kernel
theorem dX7_check_49 : decode cX7_check 49 = .ok (.getfield 13, 3) := by decide +kernel
theorem dX7_check_52 : decode cX7_check 52 = .ok (.aload_n 0, 1) := by decide +kernel
theorem dX7_check_53 : decode cX7_check 53 = .ok (.getfield 7, 3) := by decide +kernel
theorem dX7_check_56 : decode cX7_check 56 = .ok (.invokevirtual 340, 3) := by decide +kernel
theorem dX7_check_59 : decode cX7_check 59 = .ok (.iconst 0, 1) := by decide +kernel
theorem dX7_check_60 : decode cX7_check 60 = .ok (.istore_n 3, 1) := by decide +kernel
theorem dX7_check_61 : decode cX7_check 61 = .ok (.iconst 0, 1) := by decide +kernel
theorem dX7_check_62 : decode cX7_check 62 = .ok (.istore 4, 2) := by decide +kernel
theorem dX7_check_64 : decode cX7_check 64 = .ok (.iload 4, 2) := by decide +kernel
theorem dX7_check_66 : decode cX7_check 66 = .ok (.iload_n 1, 1) := by decide +kernel
theorem dX7_check_67 : decode cX7_check 67 = .ok (.if_icmp .ge 52, 3) := by decide +kernel
theorem dX7_check_70 : decode cX7_check 70 = .ok (.aload_n 0, 1) := by decide +kernel
theorem dX7_check_71 : decode cX7_check 71 = .ok (.getfield 7, 3) := by decide +kernel
theorem dX7_check_74 : decode cX7_check 74 = .ok (.iconst 2, 1) := by decide +kernel
theorem dX7_check_75 : decode cX7_check 75 = .ok (.iaload, 1) := by decide +kernel
theorem dX7_check_76 : decode cX7_check 76 = .ok (.sipush 9999, 3) := by decide +kernel
theorem dX7_check_79 : decode cX7_check 79 = .ok (.if_icmp .ge 40, 3) := by decide +kernel
theorem dX7_check_82 : decode cX7_check 82 = .ok (.aload_n 0, 1) := by decide +kernel
theorem dX7_check_83 : decode cX7_check 83 = .ok (.invokevirtual 163, 3) := by decide +kernel
theorem dX7_check_86 : decode cX7_check 86 = .ok (.aload_n 0, 1) := by decide +kernel
theorem dX7_check_87 : decode cX7_check 87 = .ok (.getfield 64, 3) := by decide +kernel
theorem dX7_check_90 : decode cX7_check 90 = .ok (.iload_n 3, 1) := by decide +kernel
theorem dX7_check_91 : decode cX7_check 91 = .ok (.aload_n 0, 1) := by decide +kernel
theorem dX7_check_92 : decode cX7_check 92 = .ok (.getfield 7, 3) := by decide +kernel
theorem dX7_check_95 : decode cX7_check 95 = .ok (.iconst 3, 1) := by decide +kernel
theorem dX7_check_96 : decode cX7_check 96 = .ok (.iaload, 1) := by decide +kernel
theorem dX7_check_97 : decode cX7_check 97 = .ok (.iastore, 1) := by decide +kernel
theorem dX7_check_98 : decode cX7_check 98 = .ok (.aload_n 0, 1) := by decide +kernel
theorem dX7_check_99 : decode cX7_check 99 = .ok (.getfield 64, 3) := by decide +kernel
theorem dX7_check_102 : decode cX7_check 102 = .ok (.iload_n 3, 1) := by decide +kernel
theorem dX7_check_103 : decode cX7_check 103 = .ok (.iconst 1, 1) := by decide +kernel
theorem dX7_check_104 : decode cX7_check 104 = .ok (.iadd, 1) := by decide +kernel
theorem dX7_check_105 : decode cX7_check 105 = .ok (.aload_n 0, 1) := by decide +kernel
theorem dX7_check_106 : decode cX7_check 106 = .ok (.invokevirtual 344, 3) := by decide +kernel
theorem dX7_check_109 : decode cX7_check 109 = .ok (.iastore, 1) := by decide +kernel
theorem dX7_check_110 : decode cX7_check 110 = .ok (.iinc 3 2, 3) := by decide +kernel
theorem dX7_check_113 : decode cX7_check 113 = .ok (.iinc 4 1, 3) := by decide +kernel
theorem dX7_check_116 : decode cX7_check 116 = .ok (.goto (-52), 3) := by decide +kernel
theorem dX7_check_119 : decode cX7_check 119 = .ok (.aload_n 0, 1) := by decide +kernel
theorem dX7_check_120 : decode cX7_check 120 = .ok (.aload_n 0, 1) := by decide +kernel
theorem dX7_check_121 : decode cX7_check 121 = .ok (.getfield 16, 3) := by decide +kernel
theorem dX7_check_124 : decode cX7_check 124 = .ok (.aload_n 0, 1) := by decide +kernel
theorem dX7_check_125 : decode cX7_check 125 = .ok (.getfield 7, 3) := by decide +kernel
theorem dX7_check_128 : decode cX7_check 128 = .ok (.invokevirtual 340, 3) := by decide +kernel
theorem dX7_check_131 : decode cX7_check 131 = .ok (.iconst 0, 1) := by decide +kernel
theorem dX7_check_132 : decode cX7_check 132 = .ok (.istore 4, 2) := by decide +kernel
theorem dX7_check_134 : decode cX7_check 134 = .ok (.iload 4, 2) := by decide +kernel
theorem dX7_check_136 : decode cX7_check 136 = .ok (.iload_n 2, 1) := by decide +kernel
theorem dX7_check_137 : decode cX7_check 137 = .ok (.if_icmp .ge 32, 3) := by decide +kernel
theorem dX7_check_140 : decode cX7_check 140 = .ok (.iload 4, 2) := by decide +kernel
theorem dX7_check_142 : decode cX7_check 142 = .ok (.iload_n 3, 1) := by decide +kernel
theorem dX7_check_143 : decode cX7_check 143 = .ok (.if_icmp .ge 26, 3) := by decide +kernel
theorem dX7_check_146 : decode cX7_check 146 = .ok (.aload_n 0, 1) := by decide +kernel
theorem dX7_check_147 : decode cX7_check 147 = .ok (.getfield 61, 3) := by decide +kernel
theorem dX7_check_150 : decode cX7_check 150 = .ok (.iload 4, 2) := by decide +kernel
theorem dX7_check_152 : decode cX7_check 152 = .ok (.iaload, 1) := by decide +kernel
theorem dX7_check_153 : decode cX7_check 153 = .ok (.aload_n 0, 1) := by decide +kernel
theorem dX7_check_154 : decode cX7_check 154 = .ok (.getfield 64, 3) := by decide +kernel
theorem dX7_check_157 : decode cX7_check 157 = .ok (.iload 4, 2) := by decide +kernel
theorem dX7_check_159 : decode cX7_check 159 = .ok (.iaload, 1) := by decide +kernel
theorem dX7_check_160 : decode cX7_check 160 = .ok (.if_icmp .ne 9, 3) := by decide +kernel
theorem dX7_check_163 : decode cX7_check 163 = .ok (.iinc 4 1, 3) := by decide +kernel
theorem dX7_check_166 : decode cX7_check 166 = .ok (.goto (-32), 3) := by decide +kernel
theorem dX7_check_169 : decode cX7_check 169 = .ok (.iload 4, 2) := by decide +kernel
theorem dX7_check_171 : decode cX7_check 171 = .ok (.iload_n 2, 1) := by decide +kernel
theorem dX7_check_172 : decode cX7_check 172 = .ok (.if_icmp .ne 13, 3) := by decide +kernel
theorem dX7_check_175 : decode cX7_check 175 = .ok (.iload 4, 2) := by decide +kernel
theorem dX7_check_177 : decode cX7_check 177 = .ok (.iload_n 3, 1) := by decide +kernel
theorem dX7_check_178 : decode cX7_check 178 = .ok (.if_icmp .ne 7, 3) := by decide +kernel
theorem dX7_check_181 : decode cX7_check 181 = .ok (.iconst 0, 1) := by decide +kernel
theorem dX7_check_182 : decode cX7_check 182 = .ok (.goto 7, 3) := by decide +kernel
theorem dX7_check_185 : decode cX7_check 185 = .ok (.iconst 1, 1) := by decide +kernel
theorem dX7_check_186 : decode cX7_check 186 = .ok (.iload 4, 2) := by decide +kernel
theorem dX7_check_188 : decode cX7_check 188 = .ok (.iadd, 1) := by decide +kernel
theorem dX7_check_189 : decode cX7_check 189 = .ok (.ireturn, 1) := by decide +kernel
theorem dX7_keep_0 : decode cX7_keep 0 = .ok (.aload_n 0, 1) := by decide +kernel
theorem dX7_keep_1 : decode cX7_keep 1 = .ok (.iconst 1, 1) := by decide +kernel
theorem dX7_keep_2 : decode cX7_keep 2 = .ok (.putfield 336, 3) := by decide +kernel
theorem dX7_keep_5 : decode cX7_keep 5 = .ok (.aload_n 0, 1) := by decide +kernel
theorem dX7_keep_6 : decode cX7_keep 6 = .ok (.aload_n 0, 1) := by decide +kernel
theorem dX7_keep_7 : decode cX7_keep 7 = .ok (.getfield 7, 3) := by decide +kernel
theorem dX7_keep_10 : decode cX7_keep 10 = .ok (.aload_n 0, 1) := by decide +kernel
theorem dX7_keep_11 : decode cX7_keep 11 = .ok (.getfield 13, 3) := by decide +kernel
theorem dX7_keep_14 : decode cX7_keep 14 = .ok (.invokevirtual 340, 3) := by decide +kernel
theorem dX7_keep_17 : decode cX7_keep 17 = .ok (.aload_n 0, 1) := by decide +kernel
theorem dX7_keep_18 : decode cX7_keep 18 = .ok (.getfield 7, 3) := by decide +kernel
theorem dX7_keep_21 : decode cX7_keep 21 = .ok (.iconst 0, 1) := by decide +kernel
theorem dX7_keep_22 : decode cX7_keep 22 = .ok (.iaload, 1) := by decide +kernel
theorem dX7_keep_23 : decode cX7_keep 23 = .ok (.ireturn, 1) := by decide +kernel
theorem dX7_back_0 : decode cX7_back 0 = .ok (.aload_n 0, 1) := by decide +kernel
theorem dX7_back_1 : decode cX7_back 1 = .ok (.getfield 336, 3) := by decide +kernel
theorem dX7_back_4 : decode cX7_back 4 = .ok (.ifCond .ne 6, 3) := by decide +kernel
theorem dX7_back_7 : decode cX7_back 7 = .ok (.ldc 151, 2) := by decide +kernel
theorem dX7_back_9 : decode cX7_back 9 = .ok (.ireturn, 1) := by decide +kernel
theorem dX7_back_10 : decode cX7_back 10 = .ok (.aload_n 0, 1) := by decide +kernel
theorem dX7_back_11 : decode cX7_back 11 = .ok (.aload_n 0, 1) := by decide +kernel
theorem dX7_back_12 : decode cX7_back 12 = .ok (.getfield 13, 3) := by decide +kernel
theorem dX7_back_15 : decode cX7_back 15 = .ok (.aload_n 0, 1) := by decide +kernel
theorem dX7_back_16 : decode cX7_back 16 = .ok (.getfield 7, 3) := by decide +kernel
theorem dX7_back_19 : decode cX7_back 19 = .ok (.invokevirtual 340, 3) := by decide +kernel
theorem dX7_back_22 : decode cX7_back 22 = .ok (.aload_n 0, 1) := by decide +kernel
theorem dX7_back_23 : decode cX7_back 23 = .ok (.getfield 7, 3) := by decide +kernel
theorem dX7_back_26 : decode cX7_back 26 = .ok (.iconst 0, 1) := by decide +kernel
theorem dX7_back_27 : decode cX7_back 27 = .ok (.iaload, 1) := by decide +kernel
theorem dX7_back_28 : decode cX7_back 28 = .ok (.ireturn, 1) := by decide +kernel
theorem dX7_count_0 : decode cX7_count 0 = .ok (.iload_n 1, 1) := by decide +kernel
theorem dX7_count_1 : decode cX7_count 1 = .ok (.tableswitch 95 0 7 #[47, 54, 61, 66, 71, 78, 83, 88], 47) := by decide +kernel
theorem dX7_count_48 : decode cX7_count 48 = .ok (.aload_n 0, 1) := by decide +kernel
theorem dX7_count_49 : decode cX7_count 49 = .ok (.getfield 7, 3) := by decide +kernel
theorem dX7_count_52 : decode cX7_count 52 = .ok (.iconst 0, 1) := by decide +kernel
theorem dX7_count_53 : decode cX7_count 53 = .ok (.iaload, 1) := by decide +kernel
theorem dX7_count_54 : decode cX7_count 54 = .ok (.ireturn, 1) := by decide +kernel
theorem dX7_count_55 : decode cX7_count 55 = .ok (.aload_n 0, 1) := by decide +kernel
theorem dX7_count_56 : decode cX7_count 56 = .ok (.getfield 7, 3) := by decide +kernel
theorem dX7_count_59 : decode cX7_count 59 = .ok (.iconst 2, 1) := by decide +kernel
theorem dX7_count_60 : decode cX7_count 60 = .ok (.iaload, 1) := by decide +kernel
theorem dX7_count_61 : decode cX7_count 61 = .ok (.ireturn, 1) := by decide +kernel
theorem dX7_count_62 : decode cX7_count 62 = .ok (.aload_n 0, 1) := by decide +kernel
theorem dX7_count_63 : decode cX7_count 63 = .ok (.invokevirtual 344, 3) := by decide +kernel
theorem dX7_count_66 : decode cX7_count 66 = .ok (.ireturn, 1) := by decide +kernel
theorem dX7_count_67 : decode cX7_count 67 = .ok (.aload_n 0, 1) := by decide +kernel
theorem dX7_count_68 : decode cX7_count 68 = .ok (.invokevirtual 208, 3) := by decide +kernel
theorem dX7_count_71 : decode cX7_count 71 = .ok (.ireturn, 1) := by decide +kernel
theorem dX7_count_72 : decode cX7_count 72 = .ok (.aload_n 0, 1) := by decide +kernel
theorem dX7_count_73 : decode cX7_count 73 = .ok (.getfield 7, 3) := by decide +kernel
theorem dX7_count_76 : decode cX7_count 76 = .ok (.iconst 1, 1) := by decide +kernel
theorem dX7_count_77 : decode cX7_count 77 = .ok (.iaload, 1) := by decide +kernel
theorem dX7_count_78 : decode cX7_count 78 = .ok (.ireturn, 1) := by decide +kernel
theorem dX7_count_79 : decode cX7_count 79 = .ok (.aload_n 0, 1) := by decide +kernel
theorem dX7_count_80 : decode cX7_count 80 = .ok (.getfield 331, 3) := by decide +kernel
theorem dX7_count_83 : decode cX7_count 83 = .ok (.ireturn, 1) := by decide +kernel
theorem dX7_count_84 : decode cX7_count 84 = .ok (.aload_n 0, 1) := by decide +kernel
theorem dX7_count_85 : decode cX7_count 85 = .ok (.getfield 213, 3) := by decide +kernel
theorem dX7_count_88 : decode cX7_count 88 = .ok (.ireturn, 1) := by decide +kernel
theorem dX7_count_89 : decode cX7_count 89 = .ok (.aload_n 0, 1) := by decide +kernel
theorem dX7_count_90 : decode cX7_count 90 = .ok (.getfield 7, 3) := by decide +kernel
theorem dX7_count_93 : decode cX7_count 93 = .ok (.iconst 5, 1) := by decide +kernel
theorem dX7_count_94 : decode cX7_count 94 = .ok (.iaload, 1) := by decide +kernel
theorem dX7_count_95 : decode cX7_count 95 = .ok (.ireturn, 1) := by decide +kernel
theorem dX7_count_96 : decode cX7_count 96 = .ok (.ldc 87, 2) := by decide +kernel
theorem dX7_count_98 : decode cX7_count 98 = .ok (.ireturn, 1) := by decide +kernel
theorem dJ11_isValidCodePoint_9a6ad_0 : decode cJ11_isValidCodePoint_9a6ad 0 = .ok (.iload_n 0, 1) := by decide +kernel
theorem dJ11_isValidCodePoint_9a6ad_1 : decode cJ11_isValidCodePoint_9a6ad 1 = .ok (.bipush 16, 2) := by decide +kernel
theorem dJ11_isValidCodePoint_9a6ad_3 : decode cJ11_isValidCodePoint_9a6ad 3 = .ok (.iushr, 1) := by decide +kernel
theorem dJ11_isValidCodePoint_9a6ad_4 : decode cJ11_isValidCodePoint_9a6ad 4 = .ok (.istore_n 1, 1) := by decide +kernel
theorem dJ11_isValidCodePoint_9a6ad_5 : decode cJ11_isValidCodePoint_9a6ad 5 = .ok (.iload_n 1, 1) := by decide +kernel
theorem dJ11_isValidCodePoint_9a6ad_6 : decode cJ11_isValidCodePoint_9a6ad 6 = .ok (.bipush 17, 2) := by decide +kernel
theorem dJ11_isValidCodePoint_9a6ad_8 : decode cJ11_isValidCodePoint_9a6ad 8 = .ok (.if_icmp .ge 7, 3) := by decide +kernel
theorem dJ11_isValidCodePoint_9a6ad_11 : decode cJ11_isValidCodePoint_9a6ad 11 = .ok (.iconst 1, 1) := by decide +kernel
theorem dJ11_isValidCodePoint_9a6ad_12 : decode cJ11_isValidCodePoint_9a6ad 12 = .ok (.goto 4, 3) := by decide +kernel
theorem dJ11_isValidCodePoint_9a6ad_15 : decode cJ11_isValidCodePoint_9a6ad 15 = .ok (.iconst 0, 1) := by decide +kernel
theorem dJ11_isValidCodePoint_9a6ad_16 : decode cJ11_isValidCodePoint_9a6ad 16 = .ok (.ireturn, 1) := by decide +kernel
theorem dJ11_highSurrogate_5068e_0 : decode cJ11_highSurrogate_5068e 0 = .ok (.iload_n 0, 1) := by decide +kernel
theorem dJ11_highSurrogate_5068e_1 : decode cJ11_highSurrogate_5068e 1 = .ok (.bipush 10, 2) := by decide +kernel
theorem dJ11_highSurrogate_5068e_3 : decode cJ11_highSurrogate_5068e 3 = .ok (.iushr, 1) := by decide +kernel
theorem dJ11_highSurrogate_5068e_4 : decode cJ11_highSurrogate_5068e 4 = .ok (.ldc 110, 2) := by decide +kernel
theorem dJ11_highSurrogate_5068e_6 : decode cJ11_highSurrogate_5068e 6 = .ok (.iadd, 1) := by decide +kernel
theorem dJ11_highSurrogate_5068e_7 : decode cJ11_highSurrogate_5068e 7 = .ok (.i2c, 1) := by decide +kernel
theorem dJ11_highSurrogate_5068e_8 : decode cJ11_highSurrogate_5068e 8 = .ok (.ireturn, 1) := by decide +kernel
theorem dJ11_lowSurrogate_5068e_0 : decode cJ11_lowSurrogate_5068e 0 = .ok (.iload_n 0, 1) := by decide +kernel
theorem dJ11_lowSurrogate_5068e_1 : decode cJ11_lowSurrogate_5068e 1 = .ok (.sipush 1023, 3) := by decide +kernel
theorem dJ11_lowSurrogate_5068e_4 : decode cJ11_lowSurrogate_5068e 4 = .ok (.iand, 1) := by decide +kernel
theorem dJ11_lowSurrogate_5068e_5 : decode cJ11_lowSurrogate_5068e 5 = .ok (.ldc 76, 2) := by decide +kernel
theorem dJ11_lowSurrogate_5068e_7 : decode cJ11_lowSurrogate_5068e 7 = .ok (.iadd, 1) := by decide +kernel
theorem dJ11_lowSurrogate_5068e_8 : decode cJ11_lowSurrogate_5068e 8 = .ok (.i2c, 1) := by decide +kernel
theorem dJ11_lowSurrogate_5068e_9 : decode cJ11_lowSurrogate_5068e 9 = .ok (.ireturn, 1) := by decide +kernel
theorem dJ6_bitCount_0f7a4_0 : decode cJ6_bitCount_0f7a4 0 = .ok (.iload_n 0, 1) := by decide +kernel
theorem dJ6_bitCount_0f7a4_1 : decode cJ6_bitCount_0f7a4 1 = .ok (.iload_n 0, 1) := by decide +kernel
theorem dJ6_bitCount_0f7a4_2 : decode cJ6_bitCount_0f7a4 2 = .ok (.iconst 1, 1) := by decide +kernel
theorem dJ6_bitCount_0f7a4_3 : decode cJ6_bitCount_0f7a4 3 = .ok (.iushr, 1) := by decide +kernel
theorem dJ6_bitCount_0f7a4_4 : decode cJ6_bitCount_0f7a4 4 = .ok (.ldc_w 265, 3) := by decide +kernel
theorem dJ6_bitCount_0f7a4_7 : decode cJ6_bitCount_0f7a4 7 = .ok (.iand, 1) := by decide +kernel
theorem dJ6_bitCount_0f7a4_8 : decode cJ6_bitCount_0f7a4 8 = .ok (.isub, 1) := by decide +kernel
theorem dJ6_bitCount_0f7a4_9 : decode cJ6_bitCount_0f7a4 9 = .ok (.istore_n 0, 1) := by decide +kernel
theorem dJ6_bitCount_0f7a4_10 : decode cJ6_bitCount_0f7a4 10 = .ok (.iload_n 0, 1) := by decide +kernel
theorem dJ6_bitCount_0f7a4_11 : decode cJ6_bitCount_0f7a4 11 = .ok (.ldc_w 266, 3) := by decide +kernel
theorem dJ6_bitCount_0f7a4_14 : decode cJ6_bitCount_0f7a4 14 = .ok (.iand, 1) := by decide +kernel
theorem dJ6_bitCount_0f7a4_15 : decode cJ6_bitCount_0f7a4 15 = .ok (.iload_n 0, 1) := by decide +kernel
theorem dJ6_bitCount_0f7a4_16 : decode cJ6_bitCount_0f7a4 16 = .ok (.iconst 2, 1) := by decide +kernel
theorem dJ6_bitCount_0f7a4_17 : decode cJ6_bitCount_0f7a4 17 = .ok (.iushr, 1) := by decide +kernel
theorem dJ6_bitCount_0f7a4_18 : decode cJ6_bitCount_0f7a4 18 = .ok (.ldc_w 266, 3) := by decide +kernel
theorem dJ6_bitCount_0f7a4_21 : decode cJ6_bitCount_0f7a4 21 = .ok (.iand, 1) := by decide +kernel
theorem dJ6_bitCount_0f7a4_22 : decode cJ6_bitCount_0f7a4 22 = .ok (.iadd, 1) := by decide +kernel
theorem dJ6_bitCount_0f7a4_23 : decode cJ6_bitCount_0f7a4 23 = .ok (.istore_n 0, 1) := by decide +kernel
theorem dJ6_bitCount_0f7a4_24 : decode cJ6_bitCount_0f7a4 24 = .ok (.iload_n 0, 1) := by decide +kernel
theorem dJ6_bitCount_0f7a4_25 : decode cJ6_bitCount_0f7a4 25 = .ok (.iload_n 0, 1) := by decide +kernel
theorem dJ6_bitCount_0f7a4_26 : decode cJ6_bitCount_0f7a4 26 = .ok (.iconst 4, 1) := by decide +kernel
theorem dJ6_bitCount_0f7a4_27 : decode cJ6_bitCount_0f7a4 27 = .ok (.iushr, 1) := by decide +kernel
theorem dJ6_bitCount_0f7a4_28 : decode cJ6_bitCount_0f7a4 28 = .ok (.iadd, 1) := by decide +kernel
theorem dJ6_bitCount_0f7a4_29 : decode cJ6_bitCount_0f7a4 29 = .ok (.ldc_w 267, 3) := by decide +kernel
theorem dJ6_bitCount_0f7a4_32 : decode cJ6_bitCount_0f7a4 32 = .ok (.iand, 1) := by decide +kernel
theorem dJ6_bitCount_0f7a4_33 : decode cJ6_bitCount_0f7a4 33 = .ok (.istore_n 0, 1) := by decide +kernel
theorem dJ6_bitCount_0f7a4_34 : decode cJ6_bitCount_0f7a4 34 = .ok (.iload_n 0, 1) := by decide +kernel
theorem dJ6_bitCount_0f7a4_35 : decode cJ6_bitCount_0f7a4 35 = .ok (.iload_n 0, 1) := by decide +kernel
theorem dJ6_bitCount_0f7a4_36 : decode cJ6_bitCount_0f7a4 36 = .ok (.bipush 8, 2) := by decide +kernel
theorem dJ6_bitCount_0f7a4_38 : decode cJ6_bitCount_0f7a4 38 = .ok (.iushr, 1) := by decide +kernel
theorem dJ6_bitCount_0f7a4_39 : decode cJ6_bitCount_0f7a4 39 = .ok (.iadd, 1) := by decide +kernel
theorem dJ6_bitCount_0f7a4_40 : decode cJ6_bitCount_0f7a4 40 = .ok (.istore_n 0, 1) := by decide +kernel
theorem dJ6_bitCount_0f7a4_41 : decode cJ6_bitCount_0f7a4 41 = .ok (.iload_n 0, 1) := by decide +kernel
theorem dJ6_bitCount_0f7a4_42 : decode cJ6_bitCount_0f7a4 42 = .ok (.iload_n 0, 1) := by decide +kernel
theorem dJ6_bitCount_0f7a4_43 : decode cJ6_bitCount_0f7a4 43 = .ok (.bipush 16, 2) := by decide +kernel
theorem dJ6_bitCount_0f7a4_45 : decode cJ6_bitCount_0f7a4 45 = .ok (.iushr, 1) := by decide +kernel
theorem dJ6_bitCount_0f7a4_46 : decode cJ6_bitCount_0f7a4 46 = .ok (.iadd, 1) := by decide +kernel
theorem dJ6_bitCount_0f7a4_47 : decode cJ6_bitCount_0f7a4 47 = .ok (.istore_n 0, 1) := by decide +kernel
theorem dJ6_bitCount_0f7a4_48 : decode cJ6_bitCount_0f7a4 48 = .ok (.iload_n 0, 1) := by decide +kernel
theorem dJ6_bitCount_0f7a4_49 : decode cJ6_bitCount_0f7a4 49 = .ok (.bipush 63, 2) := by decide +kernel
theorem dJ6_bitCount_0f7a4_51 : decode cJ6_bitCount_0f7a4 51 = .ok (.iand, 1) := by decide +kernel
theorem dJ6_bitCount_0f7a4_52 : decode cJ6_bitCount_0f7a4 52 = .ok (.ireturn, 1) := by decide +kernel
theorem dJ9_abs_0f7a4_0 : decode cJ9_abs_0f7a4 0 = .ok (.iload_n 0, 1) := by decide +kernel
theorem dJ9_abs_0f7a4_1 : decode cJ9_abs_0f7a4 1 = .ok (.ifCond .ge 8, 3) := by decide +kernel
theorem dJ9_abs_0f7a4_4 : decode cJ9_abs_0f7a4 4 = .ok (.iload_n 0, 1) := by decide +kernel
theorem dJ9_abs_0f7a4_5 : decode cJ9_abs_0f7a4 5 = .ok (.ineg, 1) := by decide +kernel
theorem dJ9_abs_0f7a4_6 : decode cJ9_abs_0f7a4 6 = .ok (.goto 4, 3) := by decide +kernel
theorem dJ9_abs_0f7a4_9 : decode cJ9_abs_0f7a4 9 = .ok (.iload_n 0, 1) := by decide +kernel
theorem dJ9_abs_0f7a4_10 : decode cJ9_abs_0f7a4 10 = .ok (.ireturn, 1) := by decide +kernel
theorem dJ9_max_7cf53_0 : decode cJ9_max_7cf53 0 = .ok (.iload_n 0, 1) := by decide +kernel
theorem dJ9_max_7cf53_1 : decode cJ9_max_7cf53 1 = .ok (.iload_n 1, 1) := by decide +kernel
theorem dJ9_max_7cf53_2 : decode cJ9_max_7cf53 2 = .ok (.if_icmp .lt 7, 3) := by decide +kernel
theorem dJ9_max_7cf53_5 : decode cJ9_max_7cf53 5 = .ok (.iload_n 0, 1) := by decide +kernel
theorem dJ9_max_7cf53_6 : decode cJ9_max_7cf53 6 = .ok (.goto 4, 3) := by decide +kernel
theorem dJ9_max_7cf53_9 : decode cJ9_max_7cf53 9 = .ok (.iload_n 1, 1) := by decide +kernel
theorem dJ9_max_7cf53_10 : decode cJ9_max_7cf53 10 = .ok (.ireturn, 1) := by decide +kernel
theorem dJ9_min_7cf53_0 : decode cJ9_min_7cf53 0 = .ok (.iload_n 0, 1) := by decide +kernel
theorem dJ9_min_7cf53_1 : decode cJ9_min_7cf53 1 = .ok (.iload_n 1, 1) := by decide +kernel
theorem dJ9_min_7cf53_2 : decode cJ9_min_7cf53 2 = .ok (.if_icmp .gt 7, 3) := by decide +kernel
theorem dJ9_min_7cf53_5 : decode cJ9_min_7cf53 5 = .ok (.iload_n 0, 1) := by decide +kernel
theorem dJ9_min_7cf53_6 : decode cJ9_min_7cf53 6 = .ok (.goto 4, 3) := by decide +kernel
theorem dJ9_min_7cf53_9 : decode cJ9_min_7cf53 9 = .ok (.iload_n 1, 1) := by decide +kernel
theorem dJ9_min_7cf53_10 : decode cJ9_min_7cf53 10 = .ok (.ireturn, 1) := by decide +kernel
theorem dJ0_length_8abf5_0 : decode cJ0_length_8abf5 0 = .ok (.aload_n 0, 1) := by decide +kernel
theorem dJ0_length_8abf5_1 : decode cJ0_length_8abf5 1 = .ok (.getfield 9, 3) := by decide +kernel
theorem dJ0_length_8abf5_4 : decode cJ0_length_8abf5 4 = .ok (.arraylength, 1) := by decide +kernel
theorem dJ0_length_8abf5_5 : decode cJ0_length_8abf5 5 = .ok (.aload_n 0, 1) := by decide +kernel
theorem dJ0_length_8abf5_6 : decode cJ0_length_8abf5 6 = .ok (.invokevirtual 335, 3) := by decide +kernel
theorem dJ0_length_8abf5_9 : decode cJ0_length_8abf5 9 = .ok (.ishr, 1) := by decide +kernel
theorem dJ0_length_8abf5_10 : decode cJ0_length_8abf5 10 = .ok (.ireturn, 1) := by decide +kernel
theorem dJ0_charAt_5068e_0 : decode cJ0_charAt_5068e 0 = .ok (.aload_n 0, 1) := by decide +kernel
theorem dJ0_charAt_5068e_1 : decode cJ0_charAt_5068e 1 = .ok (.invokevirtual 492, 3) := by decide +kernel
theorem dJ0_charAt_5068e_4 : decode cJ0_charAt_5068e 4 = .ok (.ifCond .eq 12, 3) := by decide +kernel
theorem dJ0_charAt_5068e_7 : decode cJ0_charAt_5068e 7 = .ok (.aload_n 0, 1) := by decide +kernel
theorem dJ0_charAt_5068e_8 : decode cJ0_charAt_5068e 8 = .ok (.getfield 9, 3) := by decide +kernel
theorem dJ0_charAt_5068e_11 : decode cJ0_charAt_5068e 11 = .ok (.iload_n 1, 1) := by decide +kernel
theorem dJ0_charAt_5068e_12 : decode cJ0_charAt_5068e 12 = .ok (.invokestatic 495, 3) := by decide +kernel
theorem dJ0_charAt_5068e_15 : decode cJ0_charAt_5068e 15 = .ok (.ireturn, 1) := by decide +kernel
theorem dJ0_charAt_5068e_16 : decode cJ0_charAt_5068e 16 = .ok (.aload_n 0, 1) := by decide +kernel
theorem dJ0_charAt_5068e_17 : decode cJ0_charAt_5068e 17 = .ok (.getfield 9, 3) := by decide +kernel
theorem dJ0_charAt_5068e_20 : decode cJ0_charAt_5068e 20 = .ok (.iload_n 1, 1) := by decide +kernel
theorem dJ0_charAt_5068e_21 : decode cJ0_charAt_5068e 21 = .ok (.invokestatic 498, 3) := by decide +kernel
theorem dJ0_charAt_5068e_24 : decode cJ0_charAt_5068e 24 = .ok (.ireturn, 1) := by decide +kernel
theorem dJ0_indexOf_0f7a4_0 : decode cJ0_indexOf_0f7a4 0 = .ok (.aload_n 0, 1) := by decide +kernel
theorem dJ0_indexOf_0f7a4_1 : decode cJ0_indexOf_0f7a4 1 = .ok (.iload_n 1, 1) := by decide +kernel
theorem dJ0_indexOf_0f7a4_2 : decode cJ0_indexOf_0f7a4 2 = .ok (.iconst 0, 1) := by decide +kernel
theorem dJ0_indexOf_0f7a4_3 : decode cJ0_indexOf_0f7a4 3 = .ok (.invokevirtual 633, 3) := by decide +kernel
theorem dJ0_indexOf_0f7a4_6 : decode cJ0_indexOf_0f7a4 6 = .ok (.ireturn, 1) := by decide +kernel
theorem dJ0_indexOf_7cf53_0 : decode cJ0_indexOf_7cf53 0 = .ok (.aload_n 0, 1) := by decide +kernel
theorem dJ0_indexOf_7cf53_1 : decode cJ0_indexOf_7cf53 1 = .ok (.invokevirtual 492, 3) := by decide +kernel
theorem dJ0_indexOf_7cf53_4 : decode cJ0_indexOf_7cf53 4 = .ok (.ifCond .eq 19, 3) := by decide +kernel
theorem dJ0_indexOf_7cf53_7 : decode cJ0_indexOf_7cf53 7 = .ok (.aload_n 0, 1) := by decide +kernel
theorem dJ0_indexOf_7cf53_8 : decode cJ0_indexOf_7cf53 8 = .ok (.getfield 9, 3) := by decide +kernel
theorem dJ0_indexOf_7cf53_11 : decode cJ0_indexOf_7cf53 11 = .ok (.iload_n 1, 1) := by decide +kernel
theorem dJ0_indexOf_7cf53_12 : decode cJ0_indexOf_7cf53 12 = .ok (.iload_n 2, 1) := by decide +kernel
theorem dJ0_indexOf_7cf53_13 : decode cJ0_indexOf_7cf53 13 = .ok (.aload_n 0, 1) := by decide +kernel
theorem dJ0_indexOf_7cf53_14 : decode cJ0_indexOf_7cf53 14 = .ok (.invokevirtual 505, 3) := by decide +kernel
theorem dJ0_indexOf_7cf53_17 : decode cJ0_indexOf_7cf53 17 = .ok (.invokestatic 637, 3) := by decide +kernel
theorem dJ0_indexOf_7cf53_20 : decode cJ0_indexOf_7cf53 20 = .ok (.goto 16, 3) := by decide +kernel
theorem dJ0_indexOf_7cf53_23 : decode cJ0_indexOf_7cf53 23 = .ok (.aload_n 0, 1) := by decide +kernel
theorem dJ0_indexOf_7cf53_24 : decode cJ0_indexOf_7cf53 24 = .ok (.getfield 9, 3) := by decide +kernel
theorem dJ0_indexOf_7cf53_27 : decode cJ0_indexOf_7cf53 27 = .ok (.iload_n 1, 1) := by decide +kernel
theorem dJ0_indexOf_7cf53_28 : decode cJ0_indexOf_7cf53 28 = .ok (.iload_n 2, 1) := by decide +kernel
theorem dJ0_indexOf_7cf53_29 : decode cJ0_indexOf_7cf53 29 = .ok (.aload_n 0, 1) := by decide +kernel
theorem dJ0_indexOf_7cf53_30 : decode cJ0_indexOf_7cf53 30 = .ok (.invokevirtual 505, 3) := by decide +kernel
theorem dJ0_indexOf_7cf53_33 : decode cJ0_indexOf_7cf53 33 = .ok (.invokestatic 640, 3) := by decide +kernel
theorem dJ0_indexOf_7cf53_36 : decode cJ0_indexOf_7cf53 36 = .ok (.ireturn, 1) := by decide +kernel
theorem dJ0_coder_7d493_0 : decode cJ0_coder_7d493 0 = .ok (.getstatic 38, 3) := by decide +kernel
theorem dJ0_coder_7d493_3 : decode cJ0_coder_7d493 3 = .ok (.ifCond .eq 10, 3) := by decide +kernel
theorem dJ0_coder_7d493_6 : decode cJ0_coder_7d493 6 = .ok (.aload_n 0, 1) := by decide +kernel
theorem dJ0_coder_7d493_7 : decode cJ0_coder_7d493 7 = .ok (.getfield 15, 3) := by decide +kernel
theorem dJ0_coder_7d493_10 : decode cJ0_coder_7d493 10 = .ok (.goto 4, 3) := by decide +kernel
theorem dJ0_coder_7d493_13 : decode cJ0_coder_7d493 13 = .ok (.iconst 1, 1) := by decide +kernel
theorem dJ0_coder_7d493_14 : decode cJ0_coder_7d493 14 = .ok (.ireturn, 1) := by decide +kernel
theorem dJ0_isLatin1_aae02_0 : decode cJ0_isLatin1_aae02 0 = .ok (.getstatic 38, 3) := by decide +kernel
theorem dJ0_isLatin1_aae02_3 : decode cJ0_isLatin1_aae02 3 = .ok (.ifCond .eq 14, 3) := by decide +kernel
theorem dJ0_isLatin1_aae02_6 : decode cJ0_isLatin1_aae02 6 = .ok (.aload_n 0, 1) := by decide +kernel
theorem dJ0_isLatin1_aae02_7 : decode cJ0_isLatin1_aae02 7 = .ok (.getfield 15, 3) := by decide +kernel
theorem dJ0_isLatin1_aae02_10 : decode cJ0_isLatin1_aae02 10 = .ok (.ifCond .ne 7, 3) := by decide +kernel
theorem dJ0_isLatin1_aae02_13 : decode cJ0_isLatin1_aae02 13 = .ok (.iconst 1, 1) := by decide +kernel
theorem dJ0_isLatin1_aae02_14 : decode cJ0_isLatin1_aae02 14 = .ok (.goto 4, 3) := by decide +kernel
theorem dJ0_isLatin1_aae02_17 : decode cJ0_isLatin1_aae02 17 = .ok (.iconst 0, 1) := by decide +kernel
theorem dJ0_isLatin1_aae02_18 : decode cJ0_isLatin1_aae02 18 = .ok (.ireturn, 1) := by decide +kernel
theorem dJ0_checkIndex_df160_0 : decode cJ0_checkIndex_df160 0 = .ok (.iload_n 0, 1) := by decide +kernel
theorem dJ0_checkIndex_df160_1 : decode cJ0_checkIndex_df160 1 = .ok (.iload_n 1, 1) := by decide +kernel
theorem dJ0_checkIndex_df160_2 : decode cJ0_checkIndex_df160 2 = .ok (.getstatic 1053, 3) := by decide +kernel
theorem dJ0_checkIndex_df160_5 : decode cJ0_checkIndex_df160 5 = .ok (.invokestatic 1059, 3) := by decide +kernel
theorem dJ0_checkIndex_df160_8 : decode cJ0_checkIndex_df160 8 = .ok (.pop, 1) := by decide +kernel
theorem dJ0_checkIndex_df160_9 : decode cJ0_checkIndex_df160 9 = .ok (.return_, 1) := by decide +kernel
theorem dJ0_checkBoundsBeginEnd_23922_0 : decode cJ0_checkBoundsBeginEnd_23922 0 = .ok (.iload_n 0, 1) := by decide +kernel
theorem dJ0_checkBoundsBeginEnd_23922_1 : decode cJ0_checkBoundsBeginEnd_23922 1 = .ok (.iload_n 1, 1) := by decide +kernel
theorem dJ0_checkBoundsBeginEnd_23922_2 : decode cJ0_checkBoundsBeginEnd_23922 2 = .ok (.iload_n 2, 1) := by decide +kernel
theorem dJ0_checkBoundsBeginEnd_23922_3 : decode cJ0_checkBoundsBeginEnd_23922 3 = .ok (.getstatic 1053, 3) := by decide +kernel
theorem dJ0_checkBoundsBeginEnd_23922_6 : decode cJ0_checkBoundsBeginEnd_23922 6 = .ok (.invokestatic 1062, 3) := by decide +kernel
theorem dJ0_checkBoundsBeginEnd_23922_9 : decode cJ0_checkBoundsBeginEnd_23922 9 = .ok (.pop, 1) := by decide +kernel
theorem dJ0_checkBoundsBeginEnd_23922_10 : decode cJ0_checkBoundsBeginEnd_23922 10 = .ok (.return_, 1) := by decide +kernel
theorem dJ1_charAt_3b067_0 : decode cJ1_charAt_3b067 0 = .ok (.iload_n 1, 1) := by decide +kernel
theorem dJ1_charAt_3b067_1 : decode cJ1_charAt_3b067 1 = .ok (.aload_n 0, 1) := by decide +kernel
theorem dJ1_charAt_3b067_2 : decode cJ1_charAt_3b067 2 = .ok (.arraylength, 1) := by decide +kernel
theorem dJ1_charAt_3b067_3 : decode cJ1_charAt_3b067 3 = .ok (.invokestatic 9, 3) := by decide +kernel
theorem dJ1_charAt_3b067_6 : decode cJ1_charAt_3b067 6 = .ok (.aload_n 0, 1) := by decide +kernel
theorem dJ1_charAt_3b067_7 : decode cJ1_charAt_3b067 7 = .ok (.iload_n 1, 1) := by decide +kernel
theorem dJ1_charAt_3b067_8 : decode cJ1_charAt_3b067 8 = .ok (.baload, 1) := by decide +kernel
theorem dJ1_charAt_3b067_9 : decode cJ1_charAt_3b067 9 = .ok (.sipush 255, 3) := by decide +kernel
theorem dJ1_charAt_3b067_12 : decode cJ1_charAt_3b067 12 = .ok (.iand, 1) := by decide +kernel
theorem dJ1_charAt_3b067_13 : decode cJ1_charAt_3b067 13 = .ok (.i2c, 1) := by decide +kernel
theorem dJ1_charAt_3b067_14 : decode cJ1_charAt_3b067 14 = .ok (.ireturn, 1) := by decide +kernel
theorem dJ1_canEncode_9a6ad_0 : decode cJ1_canEncode_9a6ad 0 = .ok (.iload_n 0, 1) := by decide +kernel
theorem dJ1_canEncode_9a6ad_1 : decode cJ1_canEncode_9a6ad 1 = .ok (.ifCond .lt 14, 3) := by decide +kernel
theorem dJ1_canEncode_9a6ad_4 : decode cJ1_canEncode_9a6ad 4 = .ok (.iload_n 0, 1) := by decide +kernel
theorem dJ1_canEncode_9a6ad_5 : decode cJ1_canEncode_9a6ad 5 = .ok (.sipush 255, 3) := by decide +kernel
theorem dJ1_canEncode_9a6ad_8 : decode cJ1_canEncode_9a6ad 8 = .ok (.if_icmp .gt 7, 3) := by decide +kernel
theorem dJ1_canEncode_9a6ad_11 : decode cJ1_canEncode_9a6ad 11 = .ok (.iconst 1, 1) := by decide +kernel
theorem dJ1_canEncode_9a6ad_12 : decode cJ1_canEncode_9a6ad 12 = .ok (.goto 4, 3) := by decide +kernel
theorem dJ1_canEncode_9a6ad_15 : decode cJ1_canEncode_9a6ad 15 = .ok (.iconst 0, 1) := by decide +kernel
theorem dJ1_canEncode_9a6ad_16 : decode cJ1_canEncode_9a6ad 16 = .ok (.ireturn, 1) := by decide +kernel
theorem dJ1_indexOf_4cfef_0 : decode cJ1_indexOf_4cfef 0 = .ok (.iload_n 1, 1) := by decide +kernel
theorem dJ1_indexOf_4cfef_1 : decode cJ1_indexOf_4cfef 1 = .ok (.invokestatic 88, 3) := by decide +kernel
theorem dJ1_indexOf_4cfef_4 : decode cJ1_indexOf_4cfef 4 = .ok (.ifCond .ne 5, 3) := by decide +kernel
theorem dJ1_indexOf_4cfef_7 : decode cJ1_indexOf_4cfef 7 = .ok (.iconst (-1), 1) := by decide +kernel
theorem dJ1_indexOf_4cfef_8 : decode cJ1_indexOf_4cfef 8 = .ok (.ireturn, 1) := by decide +kernel
theorem dJ1_indexOf_4cfef_9 : decode cJ1_indexOf_4cfef 9 = .ok (.iload_n 2, 1) := by decide +kernel
theorem dJ1_indexOf_4cfef_10 : decode cJ1_indexOf_4cfef 10 = .ok (.iconst 0, 1) := by decide +kernel
theorem dJ1_indexOf_4cfef_11 : decode cJ1_indexOf_4cfef 11 = .ok (.invokestatic 92, 3) := by decide +kernel
theorem dJ1_indexOf_4cfef_14 : decode cJ1_indexOf_4cfef 14 = .ok (.istore_n 2, 1) := by decide +kernel
theorem dJ1_indexOf_4cfef_15 : decode cJ1_indexOf_4cfef 15 = .ok (.iload_n 3, 1) := by decide +kernel
theorem dJ1_indexOf_4cfef_16 : decode cJ1_indexOf_4cfef 16 = .ok (.aload_n 0, 1) := by decide +kernel
theorem dJ1_indexOf_4cfef_17 : decode cJ1_indexOf_4cfef 17 = .ok (.arraylength, 1) := by decide +kernel
theorem dJ1_indexOf_4cfef_18 : decode cJ1_indexOf_4cfef 18 = .ok (.invokestatic 38, 3) := by decide +kernel
theorem dJ1_indexOf_4cfef_21 : decode cJ1_indexOf_4cfef 21 = .ok (.istore_n 3, 1) := by decide +kernel
theorem dJ1_indexOf_4cfef_22 : decode cJ1_indexOf_4cfef 22 = .ok (.iload_n 2, 1) := by decide +kernel
theorem dJ1_indexOf_4cfef_23 : decode cJ1_indexOf_4cfef 23 = .ok (.iload_n 3, 1) := by decide +kernel
theorem dJ1_indexOf_4cfef_24 : decode cJ1_indexOf_4cfef 24 = .ok (.if_icmp .lt 5, 3) := by decide +kernel
theorem dJ1_indexOf_4cfef_27 : decode cJ1_indexOf_4cfef 27 = .ok (.iconst (-1), 1) := by decide +kernel
theorem dJ1_indexOf_4cfef_28 : decode cJ1_indexOf_4cfef 28 = .ok (.ireturn, 1) := by decide +kernel
theorem dJ1_indexOf_4cfef_29 : decode cJ1_indexOf_4cfef 29 = .ok (.aload_n 0, 1) := by decide +kernel
theorem dJ1_indexOf_4cfef_30 : decode cJ1_indexOf_4cfef 30 = .ok (.iload_n 1, 1) := by decide +kernel
theorem dJ1_indexOf_4cfef_31 : decode cJ1_indexOf_4cfef 31 = .ok (.iload_n 2, 1) := by decide +kernel
theorem dJ1_indexOf_4cfef_32 : decode cJ1_indexOf_4cfef 32 = .ok (.iload_n 3, 1) := by decide +kernel
theorem dJ1_indexOf_4cfef_33 : decode cJ1_indexOf_4cfef 33 = .ok (.invokestatic 95, 3) := by decide +kernel
theorem dJ1_indexOf_4cfef_36 : decode cJ1_indexOf_4cfef 36 = .ok (.ireturn, 1) := by decide +kernel
theorem dJ1_indexOfChar_4cfef_0 : decode cJ1_indexOfChar_4cfef 0 = .ok (.iload_n 1, 1) := by decide +kernel
theorem dJ1_indexOfChar_4cfef_1 : decode cJ1_indexOfChar_4cfef 1 = .ok (.i2b, 1) := by decide +kernel
theorem dJ1_indexOfChar_4cfef_2 : decode cJ1_indexOfChar_4cfef 2 = .ok (.istore 4, 2) := by decide +kernel
theorem dJ1_indexOfChar_4cfef_4 : decode cJ1_indexOfChar_4cfef 4 = .ok (.iload_n 2, 1) := by decide +kernel
theorem dJ1_indexOfChar_4cfef_5 : decode cJ1_indexOfChar_4cfef 5 = .ok (.istore 5, 2) := by decide +kernel
theorem dJ1_indexOfChar_4cfef_7 : decode cJ1_indexOfChar_4cfef 7 = .ok (.iload 5, 2) := by decide +kernel
theorem dJ1_indexOfChar_4cfef_9 : decode cJ1_indexOfChar_4cfef 9 = .ok (.iload_n 3, 1) := by decide +kernel
theorem dJ1_indexOfChar_4cfef_10 : decode cJ1_indexOfChar_4cfef 10 = .ok (.if_icmp .ge 21, 3) := by decide +kernel
theorem dJ1_indexOfChar_4cfef_13 : decode cJ1_indexOfChar_4cfef 13 = .ok (.aload_n 0, 1) := by decide +kernel
theorem dJ1_indexOfChar_4cfef_14 : decode cJ1_indexOfChar_4cfef 14 = .ok (.iload 5, 2) := by decide +kernel
theorem dJ1_indexOfChar_4cfef_16 : decode cJ1_indexOfChar_4cfef 16 = .ok (.baload, 1) := by decide +kernel
theorem dJ1_indexOfChar_4cfef_17 : decode cJ1_indexOfChar_4cfef 17 = .ok (.iload 4, 2) := by decide +kernel
theorem dJ1_indexOfChar_4cfef_19 : decode cJ1_indexOfChar_4cfef 19 = .ok (.if_icmp .ne 6, 3) := by decide +kernel
theorem dJ1_indexOfChar_4cfef_22 : decode cJ1_indexOfChar_4cfef 22 = .ok (.iload 5, 2) := by decide +kernel
theorem dJ1_indexOfChar_4cfef_24 : decode cJ1_indexOfChar_4cfef 24 = .ok (.ireturn, 1) := by decide +kernel
theorem dJ1_indexOfChar_4cfef_25 : decode cJ1_indexOfChar_4cfef 25 = .ok (.iinc 5 1, 3) := by decide +kernel
theorem dJ1_indexOfChar_4cfef_28 : decode cJ1_indexOfChar_4cfef 28 = .ok (.goto (-21), 3) := by decide +kernel
theorem dJ1_indexOfChar_4cfef_31 : decode cJ1_indexOfChar_4cfef 31 = .ok (.iconst (-1), 1) := by decide +kernel
theorem dJ1_indexOfChar_4cfef_32 : decode cJ1_indexOfChar_4cfef 32 = .ok (.ireturn, 1) := by decide +kernel
theorem dJ2_getChar_3b067_0 : decode cJ2_getChar_3b067 0 = .ok (.getstatic 44, 3) := by decide +kernel
theorem dJ2_getChar_3b067_3 : decode cJ2_getChar_3b067 3 = .ok (.ifCond .ne 25, 3) := by decide +kernel
theorem dJ2_getChar_3b067_6 : decode cJ2_getChar_3b067 6 = .ok (.iload_n 1, 1) := by decide +kernel
theorem dJ2_getChar_3b067_7 : decode cJ2_getChar_3b067 7 = .ok (.ifCond .lt 11, 3) := by decide +kernel
theorem dJ2_getChar_3b067_10 : decode cJ2_getChar_3b067 10 = .ok (.iload_n 1, 1) := by decide +kernel
theorem dJ2_getChar_3b067_11 : decode cJ2_getChar_3b067 11 = .ok (.aload_n 0, 1) := by decide +kernel
theorem dJ2_getChar_3b067_12 : decode cJ2_getChar_3b067 12 = .ok (.invokestatic 48, 3) := by decide +kernel
theorem dJ2_getChar_3b067_15 : decode cJ2_getChar_3b067 15 = .ok (.if_icmp .lt 13, 3) := by decide +kernel
theorem dJ2_getChar_3b067_18 : decode cJ2_getChar_3b067 18 = .ok (.new 52, 3) := by decide +kernel
theorem dJ2_getChar_3b067_21 : decode cJ2_getChar_3b067 21 = .ok (.dup, 1) := by decide +kernel
theorem dJ2_getChar_3b067_22 : decode cJ2_getChar_3b067 22 = .ok (.ldc 54, 2) := by decide +kernel
theorem dJ2_getChar_3b067_24 : decode cJ2_getChar_3b067 24 = .ok (.invokespecial 56, 3) := by decide +kernel
theorem dJ2_getChar_3b067_27 : decode cJ2_getChar_3b067 27 = .ok (.athrow, 1) := by decide +kernel
theorem dJ2_getChar_3b067_28 : decode cJ2_getChar_3b067 28 = .ok (.iload_n 1, 1) := by decide +kernel
theorem dJ2_getChar_3b067_29 : decode cJ2_getChar_3b067 29 = .ok (.iconst 1, 1) := by decide +kernel
theorem dJ2_getChar_3b067_30 : decode cJ2_getChar_3b067 30 = .ok (.ishl, 1) := by decide +kernel
theorem dJ2_getChar_3b067_31 : decode cJ2_getChar_3b067 31 = .ok (.istore_n 1, 1) := by decide +kernel
theorem dJ2_getChar_3b067_32 : decode cJ2_getChar_3b067 32 = .ok (.aload_n 0, 1) := by decide +kernel
theorem dJ2_getChar_3b067_33 : decode cJ2_getChar_3b067 33 = .ok (.iload_n 1, 1) := by decide +kernel
theorem dJ2_getChar_3b067_34 : decode cJ2_getChar_3b067 34 = .ok (.iinc 1 1, 3) := by decide +kernel
theorem dJ2_getChar_3b067_37 : decode cJ2_getChar_3b067 37 = .ok (.baload, 1) := by decide +kernel
theorem dJ2_getChar_3b067_38 : decode cJ2_getChar_3b067 38 = .ok (.sipush 255, 3) := by decide +kernel
theorem dJ2_getChar_3b067_41 : decode cJ2_getChar_3b067 41 = .ok (.iand, 1) := by decide +kernel
theorem dJ2_getChar_3b067_42 : decode cJ2_getChar_3b067 42 = .ok (.getstatic 59, 3) := by decide +kernel
theorem dJ2_getChar_3b067_45 : decode cJ2_getChar_3b067 45 = .ok (.ishl, 1) := by decide +kernel
theorem dJ2_getChar_3b067_46 : decode cJ2_getChar_3b067 46 = .ok (.aload_n 0, 1) := by decide +kernel
theorem dJ2_getChar_3b067_47 : decode cJ2_getChar_3b067 47 = .ok (.iload_n 1, 1) := by decide +kernel
theorem dJ2_getChar_3b067_48 : decode cJ2_getChar_3b067 48 = .ok (.baload, 1) := by decide +kernel
theorem dJ2_getChar_3b067_49 : decode cJ2_getChar_3b067 49 = .ok (.sipush 255, 3) := by decide +kernel
theorem dJ2_getChar_3b067_52 : decode cJ2_getChar_3b067 52 = .ok (.iand, 1) := by decide +kernel
theorem dJ2_getChar_3b067_53 : decode cJ2_getChar_3b067 53 = .ok (.getstatic 63, 3) := by decide +kernel
theorem dJ2_getChar_3b067_56 : decode cJ2_getChar_3b067 56 = .ok (.ishl, 1) := by decide +kernel
theorem dJ2_getChar_3b067_57 : decode cJ2_getChar_3b067 57 = .ok (.ior, 1) := by decide +kernel
theorem dJ2_getChar_3b067_58 : decode cJ2_getChar_3b067 58 = .ok (.i2c, 1) := by decide +kernel
theorem dJ2_getChar_3b067_59 : decode cJ2_getChar_3b067 59 = .ok (.ireturn, 1) := by decide +kernel
theorem dJ2_length_9d52b_0 : decode cJ2_length_9d52b 0 = .ok (.aload_n 0, 1) := by decide +kernel
theorem dJ2_length_9d52b_1 : decode cJ2_length_9d52b 1 = .ok (.arraylength, 1) := by decide +kernel
theorem dJ2_length_9d52b_2 : decode cJ2_length_9d52b 2 = .ok (.iconst 1, 1) := by decide +kernel
theorem dJ2_length_9d52b_3 : decode cJ2_length_9d52b 3 = .ok (.ishr, 1) := by decide +kernel
theorem dJ2_length_9d52b_4 : decode cJ2_length_9d52b 4 = .ok (.ireturn, 1) := by decide +kernel
theorem dJ2_indexOf_4cfef_0 : decode cJ2_indexOf_4cfef 0 = .ok (.iload_n 2, 1) := by decide +kernel
theorem dJ2_indexOf_4cfef_1 : decode cJ2_indexOf_4cfef 1 = .ok (.iconst 0, 1) := by decide +kernel
theorem dJ2_indexOf_4cfef_2 : decode cJ2_indexOf_4cfef 2 = .ok (.invokestatic 224, 3) := by decide +kernel
theorem dJ2_indexOf_4cfef_5 : decode cJ2_indexOf_4cfef 5 = .ok (.istore_n 2, 1) := by decide +kernel
theorem dJ2_indexOf_4cfef_6 : decode cJ2_indexOf_4cfef 6 = .ok (.iload_n 3, 1) := by decide +kernel
theorem dJ2_indexOf_4cfef_7 : decode cJ2_indexOf_4cfef 7 = .ok (.aload_n 0, 1) := by decide +kernel
theorem dJ2_indexOf_4cfef_8 : decode cJ2_indexOf_4cfef 8 = .ok (.arraylength, 1) := by decide +kernel
theorem dJ2_indexOf_4cfef_9 : decode cJ2_indexOf_4cfef 9 = .ok (.iconst 1, 1) := by decide +kernel
theorem dJ2_indexOf_4cfef_10 : decode cJ2_indexOf_4cfef 10 = .ok (.ishr, 1) := by decide +kernel
theorem dJ2_indexOf_4cfef_11 : decode cJ2_indexOf_4cfef 11 = .ok (.invokestatic 183, 3) := by decide +kernel
theorem dJ2_indexOf_4cfef_14 : decode cJ2_indexOf_4cfef 14 = .ok (.istore_n 3, 1) := by decide +kernel
theorem dJ2_indexOf_4cfef_15 : decode cJ2_indexOf_4cfef 15 = .ok (.iload_n 2, 1) := by decide +kernel
theorem dJ2_indexOf_4cfef_16 : decode cJ2_indexOf_4cfef 16 = .ok (.iload_n 3, 1) := by decide +kernel
theorem dJ2_indexOf_4cfef_17 : decode cJ2_indexOf_4cfef 17 = .ok (.if_icmp .lt 5, 3) := by decide +kernel
theorem dJ2_indexOf_4cfef_20 : decode cJ2_indexOf_4cfef 20 = .ok (.iconst (-1), 1) := by decide +kernel
theorem dJ2_indexOf_4cfef_21 : decode cJ2_indexOf_4cfef 21 = .ok (.ireturn, 1) := by decide +kernel
theorem dJ2_indexOf_4cfef_22 : decode cJ2_indexOf_4cfef 22 = .ok (.iload_n 1, 1) := by decide +kernel
theorem dJ2_indexOf_4cfef_23 : decode cJ2_indexOf_4cfef 23 = .ok (.ldc 227, 2) := by decide +kernel
theorem dJ2_indexOf_4cfef_25 : decode cJ2_indexOf_4cfef 25 = .ok (.if_icmp .ge 11, 3) := by decide +kernel
theorem dJ2_indexOf_4cfef_28 : decode cJ2_indexOf_4cfef 28 = .ok (.aload_n 0, 1) := by decide +kernel
theorem dJ2_indexOf_4cfef_29 : decode cJ2_indexOf_4cfef 29 = .ok (.iload_n 1, 1) := by decide +kernel
theorem dJ2_indexOf_4cfef_30 : decode cJ2_indexOf_4cfef 30 = .ok (.iload_n 2, 1) := by decide +kernel
theorem dJ2_indexOf_4cfef_31 : decode cJ2_indexOf_4cfef 31 = .ok (.iload_n 3, 1) := by decide +kernel
theorem dJ2_indexOf_4cfef_32 : decode cJ2_indexOf_4cfef 32 = .ok (.invokestatic 228, 3) := by decide +kernel
theorem dJ2_indexOf_4cfef_35 : decode cJ2_indexOf_4cfef 35 = .ok (.ireturn, 1) := by decide +kernel
theorem dJ2_indexOf_4cfef_36 : decode cJ2_indexOf_4cfef 36 = .ok (.aload_n 0, 1) := by decide +kernel
theorem dJ2_indexOf_4cfef_37 : decode cJ2_indexOf_4cfef 37 = .ok (.iload_n 1, 1) := by decide +kernel
theorem dJ2_indexOf_4cfef_38 : decode cJ2_indexOf_4cfef 38 = .ok (.iload_n 2, 1) := by decide +kernel
theorem dJ2_indexOf_4cfef_39 : decode cJ2_indexOf_4cfef 39 = .ok (.iload_n 3, 1) := by decide +kernel
theorem dJ2_indexOf_4cfef_40 : decode cJ2_indexOf_4cfef 40 = .ok (.invokestatic 232, 3) := by decide +kernel
theorem dJ2_indexOf_4cfef_43 : decode cJ2_indexOf_4cfef 43 = .ok (.ireturn, 1) := by decide +kernel
theorem dJ2_indexOfChar_4cfef_0 : decode cJ2_indexOfChar_4cfef 0 = .ok (.iload_n 2, 1) := by decide +kernel
theorem dJ2_indexOfChar_4cfef_1 : decode cJ2_indexOfChar_4cfef 1 = .ok (.iload_n 3, 1) := by decide +kernel
theorem dJ2_indexOfChar_4cfef_2 : decode cJ2_indexOfChar_4cfef 2 = .ok (.aload_n 0, 1) := by decide +kernel
theorem dJ2_indexOfChar_4cfef_3 : decode cJ2_indexOfChar_4cfef 3 = .ok (.invokestatic 96, 3) := by decide +kernel
theorem dJ2_indexOfChar_4cfef_6 : decode cJ2_indexOfChar_4cfef 6 = .ok (.aload_n 0, 1) := by decide +kernel
theorem dJ2_indexOfChar_4cfef_7 : decode cJ2_indexOfChar_4cfef 7 = .ok (.iload_n 1, 1) := by decide +kernel
theorem dJ2_indexOfChar_4cfef_8 : decode cJ2_indexOfChar_4cfef 8 = .ok (.iload_n 2, 1) := by decide +kernel
theorem dJ2_indexOfChar_4cfef_9 : decode cJ2_indexOfChar_4cfef 9 = .ok (.iload_n 3, 1) := by decide +kernel
theorem dJ2_indexOfChar_4cfef_10 : decode cJ2_indexOfChar_4cfef 10 = .ok (.invokestatic 244, 3) := by decide +kernel
theorem dJ2_indexOfChar_4cfef_13 : decode cJ2_indexOfChar_4cfef 13 = .ok (.ireturn, 1) := by decide +kernel
theorem dJ2_indexOfCharUnsafe_4cfef_0 : decode cJ2_indexOfCharUnsafe_4cfef 0 = .ok (.iload_n 2, 1) := by decide +kernel
theorem dJ2_indexOfCharUnsafe_4cfef_1 : decode cJ2_indexOfCharUnsafe_4cfef 1 = .ok (.istore 4, 2) := by decide +kernel
theorem dJ2_indexOfCharUnsafe_4cfef_3 : decode cJ2_indexOfCharUnsafe_4cfef 3 = .ok (.iload 4, 2) := by decide +kernel
theorem dJ2_indexOfCharUnsafe_4cfef_5 : decode cJ2_indexOfCharUnsafe_4cfef 5 = .ok (.iload_n 3, 1) := by decide +kernel
theorem dJ2_indexOfCharUnsafe_4cfef_6 : decode cJ2_indexOfCharUnsafe_4cfef 6 = .ok (.if_icmp .ge 22, 3) := by decide +kernel
theorem dJ2_indexOfCharUnsafe_4cfef_9 : decode cJ2_indexOfCharUnsafe_4cfef 9 = .ok (.aload_n 0, 1) := by decide +kernel
theorem dJ2_indexOfCharUnsafe_4cfef_10 : decode cJ2_indexOfCharUnsafe_4cfef 10 = .ok (.iload 4, 2) := by decide +kernel
theorem dJ2_indexOfCharUnsafe_4cfef_12 : decode cJ2_indexOfCharUnsafe_4cfef 12 = .ok (.invokestatic 71, 3) := by decide +kernel
theorem dJ2_indexOfCharUnsafe_4cfef_15 : decode cJ2_indexOfCharUnsafe_4cfef 15 = .ok (.iload_n 1, 1) := by decide +kernel
theorem dJ2_indexOfCharUnsafe_4cfef_16 : decode cJ2_indexOfCharUnsafe_4cfef 16 = .ok (.if_icmp .ne 6, 3) := by decide +kernel
theorem dJ2_indexOfCharUnsafe_4cfef_19 : decode cJ2_indexOfCharUnsafe_4cfef 19 = .ok (.iload 4, 2) := by decide +kernel
theorem dJ2_indexOfCharUnsafe_4cfef_21 : decode cJ2_indexOfCharUnsafe_4cfef 21 = .ok (.ireturn, 1) := by decide +kernel
theorem dJ2_indexOfCharUnsafe_4cfef_22 : decode cJ2_indexOfCharUnsafe_4cfef 22 = .ok (.iinc 4 1, 3) := by decide +kernel
theorem dJ2_indexOfCharUnsafe_4cfef_25 : decode cJ2_indexOfCharUnsafe_4cfef 25 = .ok (.goto (-22), 3) := by decide +kernel
theorem dJ2_indexOfCharUnsafe_4cfef_28 : decode cJ2_indexOfCharUnsafe_4cfef 28 = .ok (.iconst (-1), 1) := by decide +kernel
theorem dJ2_indexOfCharUnsafe_4cfef_29 : decode cJ2_indexOfCharUnsafe_4cfef 29 = .ok (.ireturn, 1) := by decide +kernel
theorem dJ2_indexOfSupplementary_4cfef_0 : decode cJ2_indexOfSupplementary_4cfef 0 = .ok (.iload_n 1, 1) := by decide +kernel
theorem dJ2_indexOfSupplementary_4cfef_1 : decode cJ2_indexOfSupplementary_4cfef 1 = .ok (.invokestatic 164, 3) := by decide +kernel
theorem dJ2_indexOfSupplementary_4cfef_4 : decode cJ2_indexOfSupplementary_4cfef 4 = .ok (.ifCond .eq 65, 3) := by decide +kernel
theorem dJ2_indexOfSupplementary_4cfef_7 : decode cJ2_indexOfSupplementary_4cfef 7 = .ok (.iload_n 1, 1) := by decide +kernel
theorem dJ2_indexOfSupplementary_4cfef_8 : decode cJ2_indexOfSupplementary_4cfef 8 = .ok (.invokestatic 157, 3) := by decide +kernel
theorem dJ2_indexOfSupplementary_4cfef_11 : decode cJ2_indexOfSupplementary_4cfef 11 = .ok (.istore 4, 2) := by decide +kernel
theorem dJ2_indexOfSupplementary_4cfef_13 : decode cJ2_indexOfSupplementary_4cfef 13 = .ok (.iload_n 1, 1) := by decide +kernel
theorem dJ2_indexOfSupplementary_4cfef_14 : decode cJ2_indexOfSupplementary_4cfef 14 = .ok (.invokestatic 161, 3) := by decide +kernel
theorem dJ2_indexOfSupplementary_4cfef_17 : decode cJ2_indexOfSupplementary_4cfef 17 = .ok (.istore 5, 2) := by decide +kernel
theorem dJ2_indexOfSupplementary_4cfef_19 : decode cJ2_indexOfSupplementary_4cfef 19 = .ok (.iload_n 2, 1) := by decide +kernel
theorem dJ2_indexOfSupplementary_4cfef_20 : decode cJ2_indexOfSupplementary_4cfef 20 = .ok (.iload_n 3, 1) := by decide +kernel
theorem dJ2_indexOfSupplementary_4cfef_21 : decode cJ2_indexOfSupplementary_4cfef 21 = .ok (.aload_n 0, 1) := by decide +kernel
theorem dJ2_indexOfSupplementary_4cfef_22 : decode cJ2_indexOfSupplementary_4cfef 22 = .ok (.invokestatic 96, 3) := by decide +kernel
theorem dJ2_indexOfSupplementary_4cfef_25 : decode cJ2_indexOfSupplementary_4cfef 25 = .ok (.iload_n 2, 1) := by decide +kernel
theorem dJ2_indexOfSupplementary_4cfef_26 : decode cJ2_indexOfSupplementary_4cfef 26 = .ok (.istore 6, 2) := by decide +kernel
theorem dJ2_indexOfSupplementary_4cfef_28 : decode cJ2_indexOfSupplementary_4cfef 28 = .ok (.iload 6, 2) := by decide +kernel
theorem dJ2_indexOfSupplementary_4cfef_30 : decode cJ2_indexOfSupplementary_4cfef 30 = .ok (.iload_n 3, 1) := by decide +kernel
theorem dJ2_indexOfSupplementary_4cfef_31 : decode cJ2_indexOfSupplementary_4cfef 31 = .ok (.iconst 1, 1) := by decide +kernel
theorem dJ2_indexOfSupplementary_4cfef_32 : decode cJ2_indexOfSupplementary_4cfef 32 = .ok (.isub, 1) := by decide +kernel
theorem dJ2_indexOfSupplementary_4cfef_33 : decode cJ2_indexOfSupplementary_4cfef 33 = .ok (.if_icmp .ge 36, 3) := by decide +kernel
theorem dJ2_indexOfSupplementary_4cfef_36 : decode cJ2_indexOfSupplementary_4cfef 36 = .ok (.aload_n 0, 1) := by decide +kernel
theorem dJ2_indexOfSupplementary_4cfef_37 : decode cJ2_indexOfSupplementary_4cfef 37 = .ok (.iload 6, 2) := by decide +kernel
theorem dJ2_indexOfSupplementary_4cfef_39 : decode cJ2_indexOfSupplementary_4cfef 39 = .ok (.invokestatic 71, 3) := by decide +kernel
theorem dJ2_indexOfSupplementary_4cfef_42 : decode cJ2_indexOfSupplementary_4cfef 42 = .ok (.iload 4, 2) := by decide +kernel
theorem dJ2_indexOfSupplementary_4cfef_44 : decode cJ2_indexOfSupplementary_4cfef 44 = .ok (.if_icmp .ne 19, 3) := by decide +kernel
theorem dJ2_indexOfSupplementary_4cfef_47 : decode cJ2_indexOfSupplementary_4cfef 47 = .ok (.aload_n 0, 1) := by decide +kernel
theorem dJ2_indexOfSupplementary_4cfef_48 : decode cJ2_indexOfSupplementary_4cfef 48 = .ok (.iload 6, 2) := by decide +kernel
theorem dJ2_indexOfSupplementary_4cfef_50 : decode cJ2_indexOfSupplementary_4cfef 50 = .ok (.iconst 1, 1) := by decide +kernel
theorem dJ2_indexOfSupplementary_4cfef_51 : decode cJ2_indexOfSupplementary_4cfef 51 = .ok (.iadd, 1) := by decide +kernel
theorem dJ2_indexOfSupplementary_4cfef_52 : decode cJ2_indexOfSupplementary_4cfef 52 = .ok (.invokestatic 71, 3) := by decide +kernel
theorem dJ2_indexOfSupplementary_4cfef_55 : decode cJ2_indexOfSupplementary_4cfef 55 = .ok (.iload 5, 2) := by decide +kernel
theorem dJ2_indexOfSupplementary_4cfef_57 : decode cJ2_indexOfSupplementary_4cfef 57 = .ok (.if_icmp .ne 6, 3) := by decide +kernel
theorem dJ2_indexOfSupplementary_4cfef_60 : decode cJ2_indexOfSupplementary_4cfef 60 = .ok (.iload 6, 2) := by decide +kernel
theorem dJ2_indexOfSupplementary_4cfef_62 : decode cJ2_indexOfSupplementary_4cfef 62 = .ok (.ireturn, 1) := by decide +kernel
theorem dJ2_indexOfSupplementary_4cfef_63 : decode cJ2_indexOfSupplementary_4cfef 63 = .ok (.iinc 6 1, 3) := by decide +kernel
theorem dJ2_indexOfSupplementary_4cfef_66 : decode cJ2_indexOfSupplementary_4cfef 66 = .ok (.goto (-38), 3) := by decide +kernel
theorem dJ2_indexOfSupplementary_4cfef_69 : decode cJ2_indexOfSupplementary_4cfef 69 = .ok (.iconst (-1), 1) := by decide +kernel
theorem dJ2_indexOfSupplementary_4cfef_70 : decode cJ2_indexOfSupplementary_4cfef 70 = .ok (.ireturn, 1) := by decide +kernel
theorem dJ2_charAt_3b067_0 : decode cJ2_charAt_3b067 0 = .ok (.iload_n 1, 1) := by decide +kernel
theorem dJ2_charAt_3b067_1 : decode cJ2_charAt_3b067 1 = .ok (.aload_n 0, 1) := by decide +kernel
theorem dJ2_charAt_3b067_2 : decode cJ2_charAt_3b067 2 = .ok (.invokestatic 67, 3) := by decide +kernel
theorem dJ2_charAt_3b067_5 : decode cJ2_charAt_3b067 5 = .ok (.aload_n 0, 1) := by decide +kernel
theorem dJ2_charAt_3b067_6 : decode cJ2_charAt_3b067 6 = .ok (.iload_n 1, 1) := by decide +kernel
theorem dJ2_charAt_3b067_7 : decode cJ2_charAt_3b067 7 = .ok (.invokestatic 71, 3) := by decide +kernel
theorem dJ2_charAt_3b067_10 : decode cJ2_charAt_3b067 10 = .ok (.ireturn, 1) := by decide +kernel
theorem dJ2_checkIndex_2214a_0 : decode cJ2_checkIndex_2214a 0 = .ok (.iload_n 0, 1) := by decide +kernel
theorem dJ2_checkIndex_2214a_1 : decode cJ2_checkIndex_2214a 1 = .ok (.aload_n 1, 1) := by decide +kernel
theorem dJ2_checkIndex_2214a_2 : decode cJ2_checkIndex_2214a 2 = .ok (.invokestatic 48, 3) := by decide +kernel
theorem dJ2_checkIndex_2214a_5 : decode cJ2_checkIndex_2214a 5 = .ok (.invokestatic 414, 3) := by decide +kernel
theorem dJ2_checkIndex_2214a_8 : decode cJ2_checkIndex_2214a 8 = .ok (.return_, 1) := by decide +kernel
theorem dJ2_checkBoundsBeginEnd_d044e_0 : decode cJ2_checkBoundsBeginEnd_d044e 0 = .ok (.iload_n 0, 1) := by decide +kernel
theorem dJ2_checkBoundsBeginEnd_d044e_1 : decode cJ2_checkBoundsBeginEnd_d044e 1 = .ok (.iload_n 1, 1) := by decide +kernel
theorem dJ2_checkBoundsBeginEnd_d044e_2 : decode cJ2_checkBoundsBeginEnd_d044e 2 = .ok (.aload_n 2, 1) := by decide +kernel
theorem dJ2_checkBoundsBeginEnd_d044e_3 : decode cJ2_checkBoundsBeginEnd_d044e 3 = .ok (.invokestatic 48, 3) := by decide +kernel
theorem dJ2_checkBoundsBeginEnd_d044e_6 : decode cJ2_checkBoundsBeginEnd_d044e 6 = .ok (.invokestatic 241, 3) := by decide +kernel
theorem dJ2_checkBoundsBeginEnd_d044e_9 : decode cJ2_checkBoundsBeginEnd_d044e 9 = .ok (.return_, 1) := by decide +kernel
theorem dJ3_checkIndex_8e157_0 : decode cJ3_checkIndex_8e157 0 = .ok (.iload_n 0, 1) := by decide +kernel
theorem dJ3_checkIndex_8e157_1 : decode cJ3_checkIndex_8e157 1 = .ok (.ifCond .lt 8, 3) := by decide +kernel
theorem dJ3_checkIndex_8e157_4 : decode cJ3_checkIndex_8e157 4 = .ok (.iload_n 0, 1) := by decide +kernel
theorem dJ3_checkIndex_8e157_5 : decode cJ3_checkIndex_8e157 5 = .ok (.iload_n 1, 1) := by decide +kernel
theorem dJ3_checkIndex_8e157_6 : decode cJ3_checkIndex_8e157 6 = .ok (.if_icmp .lt 10, 3) := by decide +kernel
theorem dJ3_checkIndex_8e157_9 : decode cJ3_checkIndex_8e157 9 = .ok (.aload_n 2, 1) := by decide +kernel
theorem dJ3_checkIndex_8e157_10 : decode cJ3_checkIndex_8e157 10 = .ok (.iload_n 0, 1) := by decide +kernel
theorem dJ3_checkIndex_8e157_11 : decode cJ3_checkIndex_8e157 11 = .ok (.iload_n 1, 1) := by decide +kernel
theorem dJ3_checkIndex_8e157_12 : decode cJ3_checkIndex_8e157 12 = .ok (.invokestatic 95, 3) := by decide +kernel
theorem dJ3_checkIndex_8e157_15 : decode cJ3_checkIndex_8e157 15 = .ok (.athrow, 1) := by decide +kernel
theorem dJ3_checkIndex_8e157_16 : decode cJ3_checkIndex_8e157 16 = .ok (.iload_n 0, 1) := by decide +kernel
theorem dJ3_checkIndex_8e157_17 : decode cJ3_checkIndex_8e157 17 = .ok (.ireturn, 1) := by decide +kernel
theorem dJ3_checkFromToIndex_8c36e_0 : decode cJ3_checkFromToIndex_8c36e 0 = .ok (.iload_n 0, 1) := by decide +kernel
theorem dJ3_checkFromToIndex_8c36e_1 : decode cJ3_checkFromToIndex_8c36e 1 = .ok (.ifCond .lt 13, 3) := by decide +kernel
theorem dJ3_checkFromToIndex_8c36e_4 : decode cJ3_checkFromToIndex_8c36e 4 = .ok (.iload_n 0, 1) := by decide +kernel
theorem dJ3_checkFromToIndex_8c36e_5 : decode cJ3_checkFromToIndex_8c36e 5 = .ok (.iload_n 1, 1) := by decide +kernel
theorem dJ3_checkFromToIndex_8c36e_6 : decode cJ3_checkFromToIndex_8c36e 6 = .ok (.if_icmp .gt 8, 3) := by decide +kernel
theorem dJ3_checkFromToIndex_8c36e_9 : decode cJ3_checkFromToIndex_8c36e 9 = .ok (.iload_n 1, 1) := by decide +kernel
theorem dJ3_checkFromToIndex_8c36e_10 : decode cJ3_checkFromToIndex_8c36e 10 = .ok (.iload_n 2, 1) := by decide +kernel
theorem dJ3_checkFromToIndex_8c36e_11 : decode cJ3_checkFromToIndex_8c36e 11 = .ok (.if_icmp .le 11, 3) := by decide +kernel
theorem dJ3_checkFromToIndex_8c36e_14 : decode cJ3_checkFromToIndex_8c36e 14 = .ok (.aload_n 3, 1) := by decide +kernel
theorem dJ3_checkFromToIndex_8c36e_15 : decode cJ3_checkFromToIndex_8c36e 15 = .ok (.iload_n 0, 1) := by decide +kernel
theorem dJ3_checkFromToIndex_8c36e_16 : decode cJ3_checkFromToIndex_8c36e 16 = .ok (.iload_n 1, 1) := by decide +kernel
theorem dJ3_checkFromToIndex_8c36e_17 : decode cJ3_checkFromToIndex_8c36e 17 = .ok (.iload_n 2, 1) := by decide +kernel
theorem dJ3_checkFromToIndex_8c36e_18 : decode cJ3_checkFromToIndex_8c36e 18 = .ok (.invokestatic 99, 3) := by decide +kernel
theorem dJ3_checkFromToIndex_8c36e_21 : decode cJ3_checkFromToIndex_8c36e 21 = .ok (.athrow, 1) := by decide +kernel
theorem dJ3_checkFromToIndex_8c36e_22 : decode cJ3_checkFromToIndex_8c36e 22 = .ok (.iload_n 0, 1) := by decide +kernel
theorem dJ3_checkFromToIndex_8c36e_23 : decode cJ3_checkFromToIndex_8c36e 23 = .ok (.ireturn, 1) := by decide +kernel
theorem dL_law_0 : decode cL_law 0 = .ok (.new 7, 3) := by decide +kernel
theorem dL_law_3 : decode cL_law 3 = .ok (.dup, 1) := by decide +kernel
theorem dL_law_4 : decode cL_law 4 = .ok (.invokespecial 9, 3) := by decide +kernel
theorem dL_law_7 : decode cL_law 7 = .ok (.astore_n 1, 1) := by decide +kernel
theorem dL_law_8 : decode cL_law 8 = .ok (.new 10, 3) := by decide +kernel
theorem dL_law_11 : decode cL_law 11 = .ok (.dup, 1) := by decide +kernel
theorem dL_law_12 : decode cL_law 12 = .ok (.invokespecial 12, 3) := by decide +kernel
theorem dL_law_15 : decode cL_law 15 = .ok (.astore_n 2, 1) := by decide +kernel
theorem dL_law_16 : decode cL_law 16 = .ok (.iconst 0, 1) := by decide +kernel
theorem dL_law_17 : decode cL_law 17 = .ok (.istore_n 3, 1) := by decide +kernel
theorem dL_law_18 : decode cL_law 18 = .ok (.iload_n 3, 1) := by decide +kernel
theorem dL_law_19 : decode cL_law 19 = .ok (.aload_n 0, 1) := by decide +kernel
theorem dL_law_20 : decode cL_law 20 = .ok (.arraylength, 1) := by decide +kernel
theorem dL_law_21 : decode cL_law 21 = .ok (.bipush 6, 2) := by decide +kernel
theorem dL_law_23 : decode cL_law 23 = .ok (.isub, 1) := by decide +kernel
theorem dL_law_24 : decode cL_law 24 = .ok (.if_icmp .gt 1521, 3) := by decide +kernel
theorem dL_law_27 : decode cL_law 27 = .ok (.aload_n 0, 1) := by decide +kernel
theorem dL_law_28 : decode cL_law 28 = .ok (.iload_n 3, 1) := by decide +kernel
theorem dL_law_29 : decode cL_law 29 = .ok (.iaload, 1) := by decide +kernel
theorem dL_law_30 : decode cL_law 30 = .ok (.bipush 63, 2) := by decide +kernel
theorem dL_law_32 : decode cL_law 32 = .ok (.iand, 1) := by decide +kernel
theorem dL_law_33 : decode cL_law 33 = .ok (.tableswitch 1506 0 42 #[187, 240, 273, 306, 339, 382, 415, 458, 491, 514, 537, 580, 603, 626, 649, 662, 695, 718, 761, 794, 807, 850, 883, 916, 939, 982, 1005, 1018, 1051, 1074, 1117, 1160, 1183, 1206, 1269, 1312, 1345, 1378, 1411, 1434, 1457, 1470, 1483], 187) := by decide +kernel
theorem dL_law_220 : decode cL_law 220 = .ok (.aload_n 1, 1) := by decide +kernel
theorem dL_law_221 : decode cL_law 221 = .ok (.aload_n 0, 1) := by decide +kernel
theorem dL_law_222 : decode cL_law 222 = .ok (.iload_n 3, 1) := by decide +kernel
theorem dL_law_223 : decode cL_law 223 = .ok (.iconst 1, 1) := by decide +kernel
theorem dL_law_224 : decode cL_law 224 = .ok (.iadd, 1) := by decide +kernel
theorem dL_law_225 : decode cL_law 225 = .ok (.iaload, 1) := by decide +kernel
theorem dL_law_226 : decode cL_law 226 = .ok (.aload_n 0, 1) := by decide +kernel
theorem dL_law_227 : decode cL_law 227 = .ok (.iload_n 3, 1) := by decide +kernel
theorem dL_law_228 : decode cL_law 228 = .ok (.iconst 2, 1) := by decide +kernel
theorem dL_law_229 : decode cL_law 229 = .ok (.iadd, 1) := by decide +kernel
theorem dL_law_230 : decode cL_law 230 = .ok (.iaload, 1) := by decide +kernel
theorem dL_law_231 : decode cL_law 231 = .ok (.aload_n 0, 1) := by decide +kernel
theorem dL_law_232 : decode cL_law 232 = .ok (.iload_n 3, 1) := by decide +kernel
theorem dL_law_233 : decode cL_law 233 = .ok (.iconst 3, 1) := by decide +kernel
theorem dL_law_234 : decode cL_law 234 = .ok (.iadd, 1) := by decide +kernel
theorem dL_law_235 : decode cL_law 235 = .ok (.iaload, 1) := by decide +kernel
theorem dL_law_236 : decode cL_law 236 = .ok (.aload_n 0, 1) := by decide +kernel
theorem dL_law_237 : decode cL_law 237 = .ok (.iload_n 3, 1) := by decide +kernel
theorem dL_law_238 : decode cL_law 238 = .ok (.iconst 4, 1) := by decide +kernel
theorem dL_law_239 : decode cL_law 239 = .ok (.iadd, 1) := by decide +kernel
theorem dL_law_240 : decode cL_law 240 = .ok (.iaload, 1) := by decide +kernel
theorem dL_law_241 : decode cL_law 241 = .ok (.invokevirtual 13, 3) := by decide +kernel
theorem dL_law_244 : decode cL_law 244 = .ok (.aload_n 2, 1) := by decide +kernel
theorem dL_law_245 : decode cL_law 245 = .ok (.aload_n 0, 1) := by decide +kernel
theorem dL_law_246 : decode cL_law 246 = .ok (.iload_n 3, 1) := by decide +kernel
theorem dL_law_247 : decode cL_law 247 = .ok (.iconst 1, 1) := by decide +kernel
theorem dL_law_248 : decode cL_law 248 = .ok (.iadd, 1) := by decide +kernel
theorem dL_law_249 : decode cL_law 249 = .ok (.iaload, 1) := by decide +kernel
theorem dL_law_250 : decode cL_law 250 = .ok (.aload_n 0, 1) := by decide +kernel
theorem dL_law_251 : decode cL_law 251 = .ok (.iload_n 3, 1) := by decide +kernel
theorem dL_law_252 : decode cL_law 252 = .ok (.iconst 2, 1) := by decide +kernel
theorem dL_law_253 : decode cL_law 253 = .ok (.iadd, 1) := by decide +kernel
theorem dL_law_254 : decode cL_law 254 = .ok (.iaload, 1) := by decide +kernel
theorem dL_law_255 : decode cL_law 255 = .ok (.aload_n 0, 1) := by decide +kernel
theorem dL_law_256 : decode cL_law 256 = .ok (.iload_n 3, 1) := by decide +kernel
theorem dL_law_257 : decode cL_law 257 = .ok (.iconst 3, 1) := by decide +kernel
theorem dL_law_258 : decode cL_law 258 = .ok (.iadd, 1) := by decide +kernel
theorem dL_law_259 : decode cL_law 259 = .ok (.iaload, 1) := by decide +kernel
theorem dL_law_260 : decode cL_law 260 = .ok (.aload_n 0, 1) := by decide +kernel
theorem dL_law_261 : decode cL_law 261 = .ok (.iload_n 3, 1) := by decide +kernel
theorem dL_law_262 : decode cL_law 262 = .ok (.iconst 4, 1) := by decide +kernel
theorem dL_law_263 : decode cL_law 263 = .ok (.iadd, 1) := by decide +kernel
theorem dL_law_264 : decode cL_law 264 = .ok (.iaload, 1) := by decide +kernel
theorem dL_law_265 : decode cL_law 265 = .ok (.invokevirtual 17, 3) := by decide +kernel
theorem dL_law_268 : decode cL_law 268 = .ok (.if_icmp .eq 1271, 3) := by decide +kernel
theorem dL_law_271 : decode cL_law 271 = .ok (.iconst 0, 1) := by decide +kernel
theorem dL_law_272 : decode cL_law 272 = .ok (.ireturn, 1) := by decide +kernel
theorem dL_law_273 : decode cL_law 273 = .ok (.aload_n 1, 1) := by decide +kernel
theorem dL_law_274 : decode cL_law 274 = .ok (.aload_n 0, 1) := by decide +kernel
theorem dL_law_275 : decode cL_law 275 = .ok (.iload_n 3, 1) := by decide +kernel
theorem dL_law_276 : decode cL_law 276 = .ok (.iconst 1, 1) := by decide +kernel
theorem dL_law_277 : decode cL_law 277 = .ok (.iadd, 1) := by decide +kernel
theorem dL_law_278 : decode cL_law 278 = .ok (.iaload, 1) := by decide +kernel
theorem dL_law_279 : decode cL_law 279 = .ok (.aload_n 0, 1) := by decide +kernel
theorem dL_law_280 : decode cL_law 280 = .ok (.iload_n 3, 1) := by decide +kernel
theorem dL_law_281 : decode cL_law 281 = .ok (.iconst 2, 1) := by decide +kernel
theorem dL_law_282 : decode cL_law 282 = .ok (.iadd, 1) := by decide +kernel
theorem dL_law_283 : decode cL_law 283 = .ok (.iaload, 1) := by decide +kernel
theorem dL_law_284 : decode cL_law 284 = .ok (.invokevirtual 18, 3) := by decide +kernel
theorem dL_law_287 : decode cL_law 287 = .ok (.aload_n 2, 1) := by decide +kernel
theorem dL_law_288 : decode cL_law 288 = .ok (.aload_n 0, 1) := by decide +kernel
theorem dL_law_289 : decode cL_law 289 = .ok (.iload_n 3, 1) := by decide +kernel
theorem dL_law_290 : decode cL_law 290 = .ok (.iconst 1, 1) := by decide +kernel
theorem dL_law_291 : decode cL_law 291 = .ok (.iadd, 1) := by decide +kernel
theorem dL_law_292 : decode cL_law 292 = .ok (.iaload, 1) := by decide +kernel
theorem dL_law_293 : decode cL_law 293 = .ok (.aload_n 0, 1) := by decide +kernel
theorem dL_law_294 : decode cL_law 294 = .ok (.iload_n 3, 1) := by decide +kernel
theorem dL_law_295 : decode cL_law 295 = .ok (.iconst 2, 1) := by decide +kernel
theorem dL_law_296 : decode cL_law 296 = .ok (.iadd, 1) := by decide +kernel
theorem dL_law_297 : decode cL_law 297 = .ok (.iaload, 1) := by decide +kernel
theorem dL_law_298 : decode cL_law 298 = .ok (.invokevirtual 22, 3) := by decide +kernel
theorem dL_law_301 : decode cL_law 301 = .ok (.if_icmp .eq 1238, 3) := by decide +kernel
theorem dL_law_304 : decode cL_law 304 = .ok (.iconst 0, 1) := by decide +kernel
theorem dL_law_305 : decode cL_law 305 = .ok (.ireturn, 1) := by decide +kernel
theorem dL_law_306 : decode cL_law 306 = .ok (.aload_n 1, 1) := by decide +kernel
theorem dL_law_307 : decode cL_law 307 = .ok (.aload_n 0, 1) := by decide +kernel
theorem dL_law_308 : decode cL_law 308 = .ok (.iload_n 3, 1) := by decide +kernel
theorem dL_law_309 : decode cL_law 309 = .ok (.iconst 1, 1) := by decide +kernel
theorem dL_law_310 : decode cL_law 310 = .ok (.iadd, 1) := by decide +kernel
theorem dL_law_311 : decode cL_law 311 = .ok (.iaload, 1) := by decide +kernel
theorem dL_law_312 : decode cL_law 312 = .ok (.aload_n 0, 1) := by decide +kernel
theorem dL_law_313 : decode cL_law 313 = .ok (.iload_n 3, 1) := by decide +kernel
theorem dL_law_314 : decode cL_law 314 = .ok (.iconst 2, 1) := by decide +kernel
theorem dL_law_315 : decode cL_law 315 = .ok (.iadd, 1) := by decide +kernel
theorem dL_law_316 : decode cL_law 316 = .ok (.iaload, 1) := by decide +kernel
theorem dL_law_317 : decode cL_law 317 = .ok (.invokevirtual 23, 3) := by decide +kernel
theorem dL_law_320 : decode cL_law 320 = .ok (.aload_n 2, 1) := by decide +kernel
theorem dL_law_321 : decode cL_law 321 = .ok (.aload_n 0, 1) := by decide +kernel
theorem dL_law_322 : decode cL_law 322 = .ok (.iload_n 3, 1) := by decide +kernel
theorem dL_law_323 : decode cL_law 323 = .ok (.iconst 1, 1) := by decide +kernel
theorem dL_law_324 : decode cL_law 324 = .ok (.iadd, 1) := by decide +kernel
theorem dL_law_325 : decode cL_law 325 = .ok (.iaload, 1) := by decide +kernel
theorem dL_law_326 : decode cL_law 326 = .ok (.aload_n 0, 1) := by decide +kernel
theorem dL_law_327 : decode cL_law 327 = .ok (.iload_n 3, 1) := by decide +kernel
theorem dL_law_328 : decode cL_law 328 = .ok (.iconst 2, 1) := by decide +kernel
theorem dL_law_329 : decode cL_law 329 = .ok (.iadd, 1) := by decide +kernel
theorem dL_law_330 : decode cL_law 330 = .ok (.iaload, 1) := by decide +kernel
theorem dL_law_331 : decode cL_law 331 = .ok (.invokevirtual 26, 3) := by decide +kernel
theorem dL_law_334 : decode cL_law 334 = .ok (.if_icmp .eq 1205, 3) := by decide +kernel
theorem dL_law_337 : decode cL_law 337 = .ok (.iconst 0, 1) := by decide +kernel
theorem dL_law_338 : decode cL_law 338 = .ok (.ireturn, 1) := by decide +kernel
theorem dL_law_339 : decode cL_law 339 = .ok (.aload_n 1, 1) := by decide +kernel
theorem dL_law_340 : decode cL_law 340 = .ok (.aload_n 0, 1) := by decide +kernel
theorem dL_law_341 : decode cL_law 341 = .ok (.iload_n 3, 1) := by decide +kernel
theorem dL_law_342 : decode cL_law 342 = .ok (.iconst 1, 1) := by decide +kernel
theorem dL_law_343 : decode cL_law 343 = .ok (.iadd, 1) := by decide +kernel
theorem dL_law_344 : decode cL_law 344 = .ok (.iaload, 1) := by decide +kernel
theorem dL_law_345 : decode cL_law 345 = .ok (.aload_n 0, 1) := by decide +kernel
theorem dL_law_346 : decode cL_law 346 = .ok (.iload_n 3, 1) := by decide +kernel
theorem dL_law_347 : decode cL_law 347 = .ok (.iconst 2, 1) := by decide +kernel
theorem dL_law_348 : decode cL_law 348 = .ok (.iadd, 1) := by decide +kernel
theorem dL_law_349 : decode cL_law 349 = .ok (.iaload, 1) := by decide +kernel
theorem dL_law_350 : decode cL_law 350 = .ok (.invokevirtual 27, 3) := by decide +kernel
theorem dL_law_353 : decode cL_law 353 = .ok (.aload_n 2, 1) := by decide +kernel
theorem dL_law_354 : decode cL_law 354 = .ok (.aload_n 0, 1) := by decide +kernel
theorem dL_law_355 : decode cL_law 355 = .ok (.iload_n 3, 1) := by decide +kernel
theorem dL_law_356 : decode cL_law 356 = .ok (.iconst 1, 1) := by decide +kernel
theorem dL_law_357 : decode cL_law 357 = .ok (.iadd, 1) := by decide +kernel
theorem dL_law_358 : decode cL_law 358 = .ok (.iaload, 1) := by decide +kernel
theorem dL_law_359 : decode cL_law 359 = .ok (.aload_n 0, 1) := by decide +kernel
theorem dL_law_360 : decode cL_law 360 = .ok (.iload_n 3, 1) := by decide +kernel
theorem dL_law_361 : decode cL_law 361 = .ok (.iconst 2, 1) := by decide +kernel
theorem dL_law_362 : decode cL_law 362 = .ok (.iadd, 1) := by decide +kernel
theorem dL_law_363 : decode cL_law 363 = .ok (.iaload, 1) := by decide +kernel
theorem dL_law_364 : decode cL_law 364 = .ok (.invokevirtual 30, 3) := by decide +kernel
theorem dL_law_367 : decode cL_law 367 = .ok (.if_icmp .eq 1172, 3) := by decide +kernel
theorem dL_law_370 : decode cL_law 370 = .ok (.iconst 0, 1) := by decide +kernel
theorem dL_law_371 : decode cL_law 371 = .ok (.ireturn, 1) := by decide +kernel
theorem dL_law_372 : decode cL_law 372 = .ok (.aload_n 1, 1) := by decide +kernel
theorem dL_law_373 : decode cL_law 373 = .ok (.aload_n 0, 1) := by decide +kernel
theorem dL_law_374 : decode cL_law 374 = .ok (.iload_n 3, 1) := by decide +kernel
theorem dL_law_375 : decode cL_law 375 = .ok (.iconst 1, 1) := by decide +kernel
theorem dL_law_376 : decode cL_law 376 = .ok (.iadd, 1) := by decide +kernel
theorem dL_law_377 : decode cL_law 377 = .ok (.iaload, 1) := by decide +kernel
theorem dL_law_378 : decode cL_law 378 = .ok (.aload_n 0, 1) := by decide +kernel
theorem dL_law_379 : decode cL_law 379 = .ok (.iload_n 3, 1) := by decide +kernel
theorem dL_law_380 : decode cL_law 380 = .ok (.iconst 2, 1) := by decide +kernel
theorem dL_law_381 : decode cL_law 381 = .ok (.iadd, 1) := by decide +kernel
theorem dL_law_382 : decode cL_law 382 = .ok (.iaload, 1) := by decide +kernel
theorem dL_law_383 : decode cL_law 383 = .ok (.aload_n 0, 1) := by decide +kernel
theorem dL_law_384 : decode cL_law 384 = .ok (.iload_n 3, 1) := by decide +kernel
theorem dL_law_385 : decode cL_law 385 = .ok (.iconst 3, 1) := by decide +kernel
theorem dL_law_386 : decode cL_law 386 = .ok (.iadd, 1) := by decide +kernel
theorem dL_law_387 : decode cL_law 387 = .ok (.iaload, 1) := by decide +kernel
theorem dL_law_388 : decode cL_law 388 = .ok (.invokevirtual 31, 3) := by decide +kernel
theorem dL_law_391 : decode cL_law 391 = .ok (.aload_n 2, 1) := by decide +kernel
theorem dL_law_392 : decode cL_law 392 = .ok (.aload_n 0, 1) := by decide +kernel
theorem dL_law_393 : decode cL_law 393 = .ok (.iload_n 3, 1) := by decide +kernel
theorem dL_law_394 : decode cL_law 394 = .ok (.iconst 1, 1) := by decide +kernel
theorem dL_law_395 : decode cL_law 395 = .ok (.iadd, 1) := by decide +kernel
theorem dL_law_396 : decode cL_law 396 = .ok (.iaload, 1) := by decide +kernel
theorem dL_law_397 : decode cL_law 397 = .ok (.aload_n 0, 1) := by decide +kernel
theorem dL_law_398 : decode cL_law 398 = .ok (.iload_n 3, 1) := by decide +kernel
theorem dL_law_399 : decode cL_law 399 = .ok (.iconst 2, 1) := by decide +kernel
theorem dL_law_400 : decode cL_law 400 = .ok (.iadd, 1) := by decide +kernel
theorem dL_law_401 : decode cL_law 401 = .ok (.iaload, 1) := by decide +kernel
theorem dL_law_402 : decode cL_law 402 = .ok (.aload_n 0, 1) := by decide +kernel
theorem dL_law_403 : decode cL_law 403 = .ok (.iload_n 3, 1) := by decide +kernel
theorem dL_law_404 : decode cL_law 404 = .ok (.iconst 3, 1) := by decide +kernel
theorem dL_law_405 : decode cL_law 405 = .ok (.iadd, 1) := by decide +kernel
theorem dL_law_406 : decode cL_law 406 = .ok (.iaload, 1) := by decide +kernel
theorem dL_law_407 : decode cL_law 407 = .ok (.invokevirtual 35, 3) := by decide +kernel
theorem dL_law_410 : decode cL_law 410 = .ok (.if_icmp .eq 1129, 3) := by decide +kernel
theorem dL_law_413 : decode cL_law 413 = .ok (.iconst 0, 1) := by decide +kernel
theorem dL_law_414 : decode cL_law 414 = .ok (.ireturn, 1) := by decide +kernel
theorem dL_law_415 : decode cL_law 415 = .ok (.aload_n 1, 1) := by decide +kernel
theorem dL_law_416 : decode cL_law 416 = .ok (.aload_n 0, 1) := by decide +kernel
theorem dL_law_417 : decode cL_law 417 = .ok (.iload_n 3, 1) := by decide +kernel
theorem dL_law_418 : decode cL_law 418 = .ok (.iconst 1, 1) := by decide +kernel
theorem dL_law_419 : decode cL_law 419 = .ok (.iadd, 1) := by decide +kernel
theorem dL_law_420 : decode cL_law 420 = .ok (.iaload, 1) := by decide +kernel
theorem dL_law_421 : decode cL_law 421 = .ok (.aload_n 0, 1) := by decide +kernel
theorem dL_law_422 : decode cL_law 422 = .ok (.iload_n 3, 1) := by decide +kernel
theorem dL_law_423 : decode cL_law 423 = .ok (.iconst 2, 1) := by decide +kernel
theorem dL_law_424 : decode cL_law 424 = .ok (.iadd, 1) := by decide +kernel
theorem dL_law_425 : decode cL_law 425 = .ok (.iaload, 1) := by decide +kernel
theorem dL_law_426 : decode cL_law 426 = .ok (.invokevirtual 36, 3) := by decide +kernel
theorem dL_law_429 : decode cL_law 429 = .ok (.aload_n 2, 1) := by decide +kernel
theorem dL_law_430 : decode cL_law 430 = .ok (.aload_n 0, 1) := by decide +kernel
theorem dL_law_431 : decode cL_law 431 = .ok (.iload_n 3, 1) := by decide +kernel
theorem dL_law_432 : decode cL_law 432 = .ok (.iconst 1, 1) := by decide +kernel
theorem dL_law_433 : decode cL_law 433 = .ok (.iadd, 1) := by decide +kernel
theorem dL_law_434 : decode cL_law 434 = .ok (.iaload, 1) := by decide +kernel
theorem dL_law_435 : decode cL_law 435 = .ok (.aload_n 0, 1) := by decide +kernel
theorem dL_law_436 : decode cL_law 436 = .ok (.iload_n 3, 1) := by decide +kernel
theorem dL_law_437 : decode cL_law 437 = .ok (.iconst 2, 1) := by decide +kernel
theorem dL_law_438 : decode cL_law 438 = .ok (.iadd, 1) := by decide +kernel
theorem dL_law_439 : decode cL_law 439 = .ok (.iaload, 1) := by decide +kernel
theorem dL_law_440 : decode cL_law 440 = .ok (.invokevirtual 39, 3) := by decide +kernel
theorem dL_law_443 : decode cL_law 443 = .ok (.if_icmp .eq 1096, 3) := by decide +kernel
theorem dL_law_446 : decode cL_law 446 = .ok (.iconst 0, 1) := by decide +kernel
theorem dL_law_447 : decode cL_law 447 = .ok (.ireturn, 1) := by decide +kernel
theorem dL_law_448 : decode cL_law 448 = .ok (.aload_n 1, 1) := by decide +kernel
theorem dL_law_449 : decode cL_law 449 = .ok (.aload_n 0, 1) := by decide +kernel
theorem dL_law_450 : decode cL_law 450 = .ok (.iload_n 3, 1) := by decide +kernel
theorem dL_law_451 : decode cL_law 451 = .ok (.iconst 1, 1) := by decide +kernel
theorem dL_law_452 : decode cL_law 452 = .ok (.iadd, 1) := by decide +kernel
theorem dL_law_453 : decode cL_law 453 = .ok (.iaload, 1) := by decide +kernel
theorem dL_law_454 : decode cL_law 454 = .ok (.aload_n 0, 1) := by decide +kernel
theorem dL_law_455 : decode cL_law 455 = .ok (.iload_n 3, 1) := by decide +kernel
theorem dL_law_456 : decode cL_law 456 = .ok (.iconst 2, 1) := by decide +kernel
theorem dL_law_457 : decode cL_law 457 = .ok (.iadd, 1) := by decide +kernel
theorem dL_law_458 : decode cL_law 458 = .ok (.iaload, 1) := by decide +kernel
theorem dL_law_459 : decode cL_law 459 = .ok (.aload_n 0, 1) := by decide +kernel
theorem dL_law_460 : decode cL_law 460 = .ok (.iload_n 3, 1) := by decide +kernel
theorem dL_law_461 : decode cL_law 461 = .ok (.iconst 3, 1) := by decide +kernel
theorem dL_law_462 : decode cL_law 462 = .ok (.iadd, 1) := by decide +kernel
theorem dL_law_463 : decode cL_law 463 = .ok (.iaload, 1) := by decide +kernel
theorem dL_law_464 : decode cL_law 464 = .ok (.invokevirtual 40, 3) := by decide +kernel
theorem dL_law_467 : decode cL_law 467 = .ok (.aload_n 2, 1) := by decide +kernel
theorem dL_law_468 : decode cL_law 468 = .ok (.aload_n 0, 1) := by decide +kernel
theorem dL_law_469 : decode cL_law 469 = .ok (.iload_n 3, 1) := by decide +kernel
theorem dL_law_470 : decode cL_law 470 = .ok (.iconst 1, 1) := by decide +kernel
theorem dL_law_471 : decode cL_law 471 = .ok (.iadd, 1) := by decide +kernel
theorem dL_law_472 : decode cL_law 472 = .ok (.iaload, 1) := by decide +kernel
theorem dL_law_473 : decode cL_law 473 = .ok (.aload_n 0, 1) := by decide +kernel
theorem dL_law_474 : decode cL_law 474 = .ok (.iload_n 3, 1) := by decide +kernel
theorem dL_law_475 : decode cL_law 475 = .ok (.iconst 2, 1) := by decide +kernel
theorem dL_law_476 : decode cL_law 476 = .ok (.iadd, 1) := by decide +kernel
theorem dL_law_477 : decode cL_law 477 = .ok (.iaload, 1) := by decide +kernel
theorem dL_law_478 : decode cL_law 478 = .ok (.aload_n 0, 1) := by decide +kernel
theorem dL_law_479 : decode cL_law 479 = .ok (.iload_n 3, 1) := by decide +kernel
theorem dL_law_480 : decode cL_law 480 = .ok (.iconst 3, 1) := by decide +kernel
theorem dL_law_481 : decode cL_law 481 = .ok (.iadd, 1) := by decide +kernel
theorem dL_law_482 : decode cL_law 482 = .ok (.iaload, 1) := by decide +kernel
theorem dL_law_483 : decode cL_law 483 = .ok (.invokevirtual 43, 3) := by decide +kernel
theorem dL_law_486 : decode cL_law 486 = .ok (.if_icmp .eq 1053, 3) := by decide +kernel
theorem dL_law_489 : decode cL_law 489 = .ok (.iconst 0, 1) := by decide +kernel
theorem dL_law_490 : decode cL_law 490 = .ok (.ireturn, 1) := by decide +kernel
theorem dL_law_491 : decode cL_law 491 = .ok (.aload_n 1, 1) := by decide +kernel
theorem dL_law_492 : decode cL_law 492 = .ok (.aload_n 0, 1) := by decide +kernel
theorem dL_law_493 : decode cL_law 493 = .ok (.iload_n 3, 1) := by decide +kernel
theorem dL_law_494 : decode cL_law 494 = .ok (.iconst 1, 1) := by decide +kernel
theorem dL_law_495 : decode cL_law 495 = .ok (.iadd, 1) := by decide +kernel
theorem dL_law_496 : decode cL_law 496 = .ok (.iaload, 1) := by decide +kernel
theorem dL_law_497 : decode cL_law 497 = .ok (.aload_n 0, 1) := by decide +kernel
theorem dL_law_498 : decode cL_law 498 = .ok (.iload_n 3, 1) := by decide +kernel
theorem dL_law_499 : decode cL_law 499 = .ok (.iconst 2, 1) := by decide +kernel
theorem dL_law_500 : decode cL_law 500 = .ok (.iadd, 1) := by decide +kernel
theorem dL_law_501 : decode cL_law 501 = .ok (.iaload, 1) := by decide +kernel
theorem dL_law_502 : decode cL_law 502 = .ok (.invokevirtual 44, 3) := by decide +kernel
theorem dL_law_505 : decode cL_law 505 = .ok (.aload_n 2, 1) := by decide +kernel
theorem dL_law_506 : decode cL_law 506 = .ok (.aload_n 0, 1) := by decide +kernel
theorem dL_law_507 : decode cL_law 507 = .ok (.iload_n 3, 1) := by decide +kernel
theorem dL_law_508 : decode cL_law 508 = .ok (.iconst 1, 1) := by decide +kernel
theorem dL_law_509 : decode cL_law 509 = .ok (.iadd, 1) := by decide +kernel
theorem dL_law_510 : decode cL_law 510 = .ok (.iaload, 1) := by decide +kernel
theorem dL_law_511 : decode cL_law 511 = .ok (.aload_n 0, 1) := by decide +kernel
theorem dL_law_512 : decode cL_law 512 = .ok (.iload_n 3, 1) := by decide +kernel
theorem dL_law_513 : decode cL_law 513 = .ok (.iconst 2, 1) := by decide +kernel
theorem dL_law_514 : decode cL_law 514 = .ok (.iadd, 1) := by decide +kernel
theorem dL_law_515 : decode cL_law 515 = .ok (.iaload, 1) := by decide +kernel
theorem dL_law_516 : decode cL_law 516 = .ok (.invokevirtual 47, 3) := by decide +kernel
theorem dL_law_519 : decode cL_law 519 = .ok (.if_icmp .eq 1020, 3) := by decide +kernel
theorem dL_law_522 : decode cL_law 522 = .ok (.iconst 0, 1) := by decide +kernel
theorem dL_law_523 : decode cL_law 523 = .ok (.ireturn, 1) := by decide +kernel
theorem dL_law_524 : decode cL_law 524 = .ok (.aload_n 1, 1) := by decide +kernel
theorem dL_law_525 : decode cL_law 525 = .ok (.aload_n 0, 1) := by decide +kernel
theorem dL_law_526 : decode cL_law 526 = .ok (.iload_n 3, 1) := by decide +kernel
theorem dL_law_527 : decode cL_law 527 = .ok (.iconst 1, 1) := by decide +kernel
theorem dL_law_528 : decode cL_law 528 = .ok (.iadd, 1) := by decide +kernel
theorem dL_law_529 : decode cL_law 529 = .ok (.iaload, 1) := by decide +kernel
theorem dL_law_530 : decode cL_law 530 = .ok (.invokevirtual 48, 3) := by decide +kernel
theorem dL_law_533 : decode cL_law 533 = .ok (.aload_n 2, 1) := by decide +kernel
theorem dL_law_534 : decode cL_law 534 = .ok (.aload_n 0, 1) := by decide +kernel
theorem dL_law_535 : decode cL_law 535 = .ok (.iload_n 3, 1) := by decide +kernel
theorem dL_law_536 : decode cL_law 536 = .ok (.iconst 1, 1) := by decide +kernel
theorem dL_law_537 : decode cL_law 537 = .ok (.iadd, 1) := by decide +kernel
theorem dL_law_538 : decode cL_law 538 = .ok (.iaload, 1) := by decide +kernel
theorem dL_law_539 : decode cL_law 539 = .ok (.invokevirtual 52, 3) := by decide +kernel
theorem dL_law_542 : decode cL_law 542 = .ok (.if_icmp .eq 997, 3) := by decide +kernel
theorem dL_law_545 : decode cL_law 545 = .ok (.iconst 0, 1) := by decide +kernel
theorem dL_law_546 : decode cL_law 546 = .ok (.ireturn, 1) := by decide +kernel
theorem dL_law_547 : decode cL_law 547 = .ok (.aload_n 1, 1) := by decide +kernel
theorem dL_law_548 : decode cL_law 548 = .ok (.aload_n 0, 1) := by decide +kernel
theorem dL_law_549 : decode cL_law 549 = .ok (.iload_n 3, 1) := by decide +kernel
theorem dL_law_550 : decode cL_law 550 = .ok (.iconst 1, 1) := by decide +kernel
theorem dL_law_551 : decode cL_law 551 = .ok (.iadd, 1) := by decide +kernel
theorem dL_law_552 : decode cL_law 552 = .ok (.iaload, 1) := by decide +kernel
theorem dL_law_553 : decode cL_law 553 = .ok (.invokevirtual 53, 3) := by decide +kernel
theorem dL_law_556 : decode cL_law 556 = .ok (.aload_n 2, 1) := by decide +kernel
theorem dL_law_557 : decode cL_law 557 = .ok (.aload_n 0, 1) := by decide +kernel
theorem dL_law_558 : decode cL_law 558 = .ok (.iload_n 3, 1) := by decide +kernel
theorem dL_law_559 : decode cL_law 559 = .ok (.iconst 1, 1) := by decide +kernel
theorem dL_law_560 : decode cL_law 560 = .ok (.iadd, 1) := by decide +kernel
theorem dL_law_561 : decode cL_law 561 = .ok (.iaload, 1) := by decide +kernel
theorem dL_law_562 : decode cL_law 562 = .ok (.invokevirtual 56, 3) := by decide +kernel
theorem dL_law_565 : decode cL_law 565 = .ok (.if_icmp .eq 974, 3) := by decide +kernel
theorem dL_law_568 : decode cL_law 568 = .ok (.iconst 0, 1) := by decide +kernel
theorem dL_law_569 : decode cL_law 569 = .ok (.ireturn, 1) := by decide +kernel
theorem dL_law_570 : decode cL_law 570 = .ok (.aload_n 1, 1) := by decide +kernel
theorem dL_law_571 : decode cL_law 571 = .ok (.aload_n 0, 1) := by decide +kernel
theorem dL_law_572 : decode cL_law 572 = .ok (.iload_n 3, 1) := by decide +kernel
theorem dL_law_573 : decode cL_law 573 = .ok (.iconst 1, 1) := by decide +kernel
theorem dL_law_574 : decode cL_law 574 = .ok (.iadd, 1) := by decide +kernel
theorem dL_law_575 : decode cL_law 575 = .ok (.iaload, 1) := by decide +kernel
theorem dL_law_576 : decode cL_law 576 = .ok (.aload_n 0, 1) := by decide +kernel
theorem dL_law_577 : decode cL_law 577 = .ok (.iload_n 3, 1) := by decide +kernel
theorem dL_law_578 : decode cL_law 578 = .ok (.iconst 2, 1) := by decide +kernel
theorem dL_law_579 : decode cL_law 579 = .ok (.iadd, 1) := by decide +kernel
theorem dL_law_580 : decode cL_law 580 = .ok (.iaload, 1) := by decide +kernel
theorem dL_law_581 : decode cL_law 581 = .ok (.aload_n 0, 1) := by decide +kernel
theorem dL_law_582 : decode cL_law 582 = .ok (.iload_n 3, 1) := by decide +kernel
theorem dL_law_583 : decode cL_law 583 = .ok (.iconst 3, 1) := by decide +kernel
theorem dL_law_584 : decode cL_law 584 = .ok (.iadd, 1) := by decide +kernel
theorem dL_law_585 : decode cL_law 585 = .ok (.iaload, 1) := by decide +kernel
theorem dL_law_586 : decode cL_law 586 = .ok (.invokevirtual 57, 3) := by decide +kernel
theorem dL_law_589 : decode cL_law 589 = .ok (.aload_n 2, 1) := by decide +kernel
theorem dL_law_590 : decode cL_law 590 = .ok (.aload_n 0, 1) := by decide +kernel
theorem dL_law_591 : decode cL_law 591 = .ok (.iload_n 3, 1) := by decide +kernel
theorem dL_law_592 : decode cL_law 592 = .ok (.iconst 1, 1) := by decide +kernel
theorem dL_law_593 : decode cL_law 593 = .ok (.iadd, 1) := by decide +kernel
theorem dL_law_594 : decode cL_law 594 = .ok (.iaload, 1) := by decide +kernel
theorem dL_law_595 : decode cL_law 595 = .ok (.aload_n 0, 1) := by decide +kernel
theorem dL_law_596 : decode cL_law 596 = .ok (.iload_n 3, 1) := by decide +kernel
theorem dL_law_597 : decode cL_law 597 = .ok (.iconst 2, 1) := by decide +kernel
theorem dL_law_598 : decode cL_law 598 = .ok (.iadd, 1) := by decide +kernel
theorem dL_law_599 : decode cL_law 599 = .ok (.iaload, 1) := by decide +kernel
theorem dL_law_600 : decode cL_law 600 = .ok (.aload_n 0, 1) := by decide +kernel
theorem dL_law_601 : decode cL_law 601 = .ok (.iload_n 3, 1) := by decide +kernel
theorem dL_law_602 : decode cL_law 602 = .ok (.iconst 3, 1) := by decide +kernel
theorem dL_law_603 : decode cL_law 603 = .ok (.iadd, 1) := by decide +kernel
theorem dL_law_604 : decode cL_law 604 = .ok (.iaload, 1) := by decide +kernel
theorem dL_law_605 : decode cL_law 605 = .ok (.invokevirtual 60, 3) := by decide +kernel
theorem dL_law_608 : decode cL_law 608 = .ok (.if_icmp .eq 931, 3) := by decide +kernel
theorem dL_law_611 : decode cL_law 611 = .ok (.iconst 0, 1) := by decide +kernel
theorem dL_law_612 : decode cL_law 612 = .ok (.ireturn, 1) := by decide +kernel
theorem dL_law_613 : decode cL_law 613 = .ok (.aload_n 1, 1) := by decide +kernel
theorem dL_law_614 : decode cL_law 614 = .ok (.aload_n 0, 1) := by decide +kernel
theorem dL_law_615 : decode cL_law 615 = .ok (.iload_n 3, 1) := by decide +kernel
theorem dL_law_616 : decode cL_law 616 = .ok (.iconst 1, 1) := by decide +kernel
theorem dL_law_617 : decode cL_law 617 = .ok (.iadd, 1) := by decide +kernel
theorem dL_law_618 : decode cL_law 618 = .ok (.iaload, 1) := by decide +kernel
theorem dL_law_619 : decode cL_law 619 = .ok (.invokevirtual 61, 3) := by decide +kernel
theorem dL_law_622 : decode cL_law 622 = .ok (.aload_n 2, 1) := by decide +kernel
theorem dL_law_623 : decode cL_law 623 = .ok (.aload_n 0, 1) := by decide +kernel
theorem dL_law_624 : decode cL_law 624 = .ok (.iload_n 3, 1) := by decide +kernel
theorem dL_law_625 : decode cL_law 625 = .ok (.iconst 1, 1) := by decide +kernel
theorem dL_law_626 : decode cL_law 626 = .ok (.iadd, 1) := by decide +kernel
theorem dL_law_627 : decode cL_law 627 = .ok (.iaload, 1) := by decide +kernel
theorem dL_law_628 : decode cL_law 628 = .ok (.invokevirtual 64, 3) := by decide +kernel
theorem dL_law_631 : decode cL_law 631 = .ok (.if_icmp .eq 908, 3) := by decide +kernel
theorem dL_law_634 : decode cL_law 634 = .ok (.iconst 0, 1) := by decide +kernel
theorem dL_law_635 : decode cL_law 635 = .ok (.ireturn, 1) := by decide +kernel
theorem dL_law_636 : decode cL_law 636 = .ok (.aload_n 1, 1) := by decide +kernel
theorem dL_law_637 : decode cL_law 637 = .ok (.aload_n 0, 1) := by decide +kernel
theorem dL_law_638 : decode cL_law 638 = .ok (.iload_n 3, 1) := by decide +kernel
theorem dL_law_639 : decode cL_law 639 = .ok (.iconst 1, 1) := by decide +kernel
theorem dL_law_640 : decode cL_law 640 = .ok (.iadd, 1) := by decide +kernel
theorem dL_law_641 : decode cL_law 641 = .ok (.iaload, 1) := by decide +kernel
theorem dL_law_642 : decode cL_law 642 = .ok (.invokevirtual 65, 3) := by decide +kernel
theorem dL_law_645 : decode cL_law 645 = .ok (.aload_n 2, 1) := by decide +kernel
theorem dL_law_646 : decode cL_law 646 = .ok (.aload_n 0, 1) := by decide +kernel
theorem dL_law_647 : decode cL_law 647 = .ok (.iload_n 3, 1) := by decide +kernel
theorem dL_law_648 : decode cL_law 648 = .ok (.iconst 1, 1) := by decide +kernel
theorem dL_law_649 : decode cL_law 649 = .ok (.iadd, 1) := by decide +kernel
theorem dL_law_650 : decode cL_law 650 = .ok (.iaload, 1) := by decide +kernel
theorem dL_law_651 : decode cL_law 651 = .ok (.invokevirtual 68, 3) := by decide +kernel
theorem dL_law_654 : decode cL_law 654 = .ok (.if_icmp .eq 885, 3) := by decide +kernel
theorem dL_law_657 : decode cL_law 657 = .ok (.iconst 0, 1) := by decide +kernel
theorem dL_law_658 : decode cL_law 658 = .ok (.ireturn, 1) := by decide +kernel
theorem dL_law_659 : decode cL_law 659 = .ok (.aload_n 1, 1) := by decide +kernel
theorem dL_law_660 : decode cL_law 660 = .ok (.aload_n 0, 1) := by decide +kernel
theorem dL_law_661 : decode cL_law 661 = .ok (.iload_n 3, 1) := by decide +kernel
theorem dL_law_662 : decode cL_law 662 = .ok (.iconst 1, 1) := by decide +kernel
theorem dL_law_663 : decode cL_law 663 = .ok (.iadd, 1) := by decide +kernel
theorem dL_law_664 : decode cL_law 664 = .ok (.iaload, 1) := by decide +kernel
theorem dL_law_665 : decode cL_law 665 = .ok (.invokevirtual 69, 3) := by decide +kernel
theorem dL_law_668 : decode cL_law 668 = .ok (.aload_n 2, 1) := by decide +kernel
theorem dL_law_669 : decode cL_law 669 = .ok (.aload_n 0, 1) := by decide +kernel
theorem dL_law_670 : decode cL_law 670 = .ok (.iload_n 3, 1) := by decide +kernel
theorem dL_law_671 : decode cL_law 671 = .ok (.iconst 1, 1) := by decide +kernel
theorem dL_law_672 : decode cL_law 672 = .ok (.iadd, 1) := by decide +kernel
theorem dL_law_673 : decode cL_law 673 = .ok (.iaload, 1) := by decide +kernel
theorem dL_law_674 : decode cL_law 674 = .ok (.invokevirtual 72, 3) := by decide +kernel
theorem dL_law_677 : decode cL_law 677 = .ok (.if_icmp .eq 862, 3) := by decide +kernel
theorem dL_law_680 : decode cL_law 680 = .ok (.iconst 0, 1) := by decide +kernel
theorem dL_law_681 : decode cL_law 681 = .ok (.ireturn, 1) := by decide +kernel
theorem dL_law_682 : decode cL_law 682 = .ok (.aload_n 1, 1) := by decide +kernel
theorem dL_law_683 : decode cL_law 683 = .ok (.invokevirtual 73, 3) := by decide +kernel
theorem dL_law_686 : decode cL_law 686 = .ok (.aload_n 2, 1) := by decide +kernel
theorem dL_law_687 : decode cL_law 687 = .ok (.invokevirtual 77, 3) := by decide +kernel
theorem dL_law_690 : decode cL_law 690 = .ok (.if_icmp .eq 849, 3) := by decide +kernel
theorem dL_law_693 : decode cL_law 693 = .ok (.iconst 0, 1) := by decide +kernel
theorem dL_law_694 : decode cL_law 694 = .ok (.ireturn, 1) := by decide +kernel
theorem dL_law_695 : decode cL_law 695 = .ok (.aload_n 1, 1) := by decide +kernel
theorem dL_law_696 : decode cL_law 696 = .ok (.aload_n 0, 1) := by decide +kernel
theorem dL_law_697 : decode cL_law 697 = .ok (.iload_n 3, 1) := by decide +kernel
theorem dL_law_698 : decode cL_law 698 = .ok (.iconst 1, 1) := by decide +kernel
theorem dL_law_699 : decode cL_law 699 = .ok (.iadd, 1) := by decide +kernel
theorem dL_law_700 : decode cL_law 700 = .ok (.iaload, 1) := by decide +kernel
theorem dL_law_701 : decode cL_law 701 = .ok (.aload_n 0, 1) := by decide +kernel
theorem dL_law_702 : decode cL_law 702 = .ok (.iload_n 3, 1) := by decide +kernel
theorem dL_law_703 : decode cL_law 703 = .ok (.iconst 2, 1) := by decide +kernel
theorem dL_law_704 : decode cL_law 704 = .ok (.iadd, 1) := by decide +kernel
theorem dL_law_705 : decode cL_law 705 = .ok (.iaload, 1) := by decide +kernel
theorem dL_law_706 : decode cL_law 706 = .ok (.invokevirtual 78, 3) := by decide +kernel
theorem dL_law_709 : decode cL_law 709 = .ok (.aload_n 2, 1) := by decide +kernel
theorem dL_law_710 : decode cL_law 710 = .ok (.aload_n 0, 1) := by decide +kernel
theorem dL_law_711 : decode cL_law 711 = .ok (.iload_n 3, 1) := by decide +kernel
theorem dL_law_712 : decode cL_law 712 = .ok (.iconst 1, 1) := by decide +kernel
theorem dL_law_713 : decode cL_law 713 = .ok (.iadd, 1) := by decide +kernel
theorem dL_law_714 : decode cL_law 714 = .ok (.iaload, 1) := by decide +kernel
theorem dL_law_715 : decode cL_law 715 = .ok (.aload_n 0, 1) := by decide +kernel
theorem dL_law_716 : decode cL_law 716 = .ok (.iload_n 3, 1) := by decide +kernel
theorem dL_law_717 : decode cL_law 717 = .ok (.iconst 2, 1) := by decide +kernel
theorem dL_law_718 : decode cL_law 718 = .ok (.iadd, 1) := by decide +kernel
theorem dL_law_719 : decode cL_law 719 = .ok (.iaload, 1) := by decide +kernel
theorem dL_law_720 : decode cL_law 720 = .ok (.invokevirtual 81, 3) := by decide +kernel
theorem dL_law_723 : decode cL_law 723 = .ok (.if_icmp .eq 816, 3) := by decide +kernel
theorem dL_law_726 : decode cL_law 726 = .ok (.iconst 0, 1) := by decide +kernel
theorem dL_law_727 : decode cL_law 727 = .ok (.ireturn, 1) := by decide +kernel
theorem dL_law_728 : decode cL_law 728 = .ok (.aload_n 1, 1) := by decide +kernel
theorem dL_law_729 : decode cL_law 729 = .ok (.aload_n 0, 1) := by decide +kernel
theorem dL_law_730 : decode cL_law 730 = .ok (.iload_n 3, 1) := by decide +kernel
theorem dL_law_731 : decode cL_law 731 = .ok (.iconst 1, 1) := by decide +kernel
theorem dL_law_732 : decode cL_law 732 = .ok (.iadd, 1) := by decide +kernel
theorem dL_law_733 : decode cL_law 733 = .ok (.iaload, 1) := by decide +kernel
theorem dL_law_734 : decode cL_law 734 = .ok (.invokevirtual 82, 3) := by decide +kernel
theorem dL_law_737 : decode cL_law 737 = .ok (.aload_n 2, 1) := by decide +kernel
theorem dL_law_738 : decode cL_law 738 = .ok (.aload_n 0, 1) := by decide +kernel
theorem dL_law_739 : decode cL_law 739 = .ok (.iload_n 3, 1) := by decide +kernel
theorem dL_law_740 : decode cL_law 740 = .ok (.iconst 1, 1) := by decide +kernel
theorem dL_law_741 : decode cL_law 741 = .ok (.iadd, 1) := by decide +kernel
theorem dL_law_742 : decode cL_law 742 = .ok (.iaload, 1) := by decide +kernel
theorem dL_law_743 : decode cL_law 743 = .ok (.invokevirtual 85, 3) := by decide +kernel
theorem dL_law_746 : decode cL_law 746 = .ok (.if_icmp .eq 793, 3) := by decide +kernel
theorem dL_law_749 : decode cL_law 749 = .ok (.iconst 0, 1) := by decide +kernel
theorem dL_law_750 : decode cL_law 750 = .ok (.ireturn, 1) := by decide +kernel
theorem dL_law_751 : decode cL_law 751 = .ok (.aload_n 1, 1) := by decide +kernel
theorem dL_law_752 : decode cL_law 752 = .ok (.aload_n 0, 1) := by decide +kernel
theorem dL_law_753 : decode cL_law 753 = .ok (.iload_n 3, 1) := by decide +kernel
theorem dL_law_754 : decode cL_law 754 = .ok (.iconst 1, 1) := by decide +kernel
theorem dL_law_755 : decode cL_law 755 = .ok (.iadd, 1) := by decide +kernel
theorem dL_law_756 : decode cL_law 756 = .ok (.iaload, 1) := by decide +kernel
theorem dL_law_757 : decode cL_law 757 = .ok (.aload_n 0, 1) := by decide +kernel
theorem dL_law_758 : decode cL_law 758 = .ok (.iload_n 3, 1) := by decide +kernel
theorem dL_law_759 : decode cL_law 759 = .ok (.iconst 2, 1) := by decide +kernel
theorem dL_law_760 : decode cL_law 760 = .ok (.iadd, 1) := by decide +kernel
theorem dL_law_761 : decode cL_law 761 = .ok (.iaload, 1) := by decide +kernel
theorem dL_law_762 : decode cL_law 762 = .ok (.aload_n 0, 1) := by decide +kernel
theorem dL_law_763 : decode cL_law 763 = .ok (.iload_n 3, 1) := by decide +kernel
theorem dL_law_764 : decode cL_law 764 = .ok (.iconst 3, 1) := by decide +kernel
theorem dL_law_765 : decode cL_law 765 = .ok (.iadd, 1) := by decide +kernel
theorem dL_law_766 : decode cL_law 766 = .ok (.iaload, 1) := by decide +kernel
theorem dL_law_767 : decode cL_law 767 = .ok (.invokevirtual 86, 3) := by decide +kernel
theorem dL_law_770 : decode cL_law 770 = .ok (.aload_n 2, 1) := by decide +kernel
theorem dL_law_771 : decode cL_law 771 = .ok (.aload_n 0, 1) := by decide +kernel
theorem dL_law_772 : decode cL_law 772 = .ok (.iload_n 3, 1) := by decide +kernel
theorem dL_law_773 : decode cL_law 773 = .ok (.iconst 1, 1) := by decide +kernel
theorem dL_law_774 : decode cL_law 774 = .ok (.iadd, 1) := by decide +kernel
theorem dL_law_775 : decode cL_law 775 = .ok (.iaload, 1) := by decide +kernel
theorem dL_law_776 : decode cL_law 776 = .ok (.aload_n 0, 1) := by decide +kernel
theorem dL_law_777 : decode cL_law 777 = .ok (.iload_n 3, 1) := by decide +kernel
theorem dL_law_778 : decode cL_law 778 = .ok (.iconst 2, 1) := by decide +kernel
theorem dL_law_779 : decode cL_law 779 = .ok (.iadd, 1) := by decide +kernel
theorem dL_law_780 : decode cL_law 780 = .ok (.iaload, 1) := by decide +kernel
theorem dL_law_781 : decode cL_law 781 = .ok (.aload_n 0, 1) := by decide +kernel
theorem dL_law_782 : decode cL_law 782 = .ok (.iload_n 3, 1) := by decide +kernel
theorem dL_law_783 : decode cL_law 783 = .ok (.iconst 3, 1) := by decide +kernel
theorem dL_law_784 : decode cL_law 784 = .ok (.iadd, 1) := by decide +kernel
theorem dL_law_785 : decode cL_law 785 = .ok (.iaload, 1) := by decide +kernel
theorem dL_law_786 : decode cL_law 786 = .ok (.invokevirtual 89, 3) := by decide +kernel
theorem dL_law_789 : decode cL_law 789 = .ok (.if_icmp .eq 750, 3) := by decide +kernel
theorem dL_law_792 : decode cL_law 792 = .ok (.iconst 0, 1) := by decide +kernel
theorem dL_law_793 : decode cL_law 793 = .ok (.ireturn, 1) := by decide +kernel
theorem dL_law_794 : decode cL_law 794 = .ok (.aload_n 1, 1) := by decide +kernel
theorem dL_law_795 : decode cL_law 795 = .ok (.aload_n 0, 1) := by decide +kernel
theorem dL_law_796 : decode cL_law 796 = .ok (.iload_n 3, 1) := by decide +kernel
theorem dL_law_797 : decode cL_law 797 = .ok (.iconst 1, 1) := by decide +kernel
theorem dL_law_798 : decode cL_law 798 = .ok (.iadd, 1) := by decide +kernel
theorem dL_law_799 : decode cL_law 799 = .ok (.iaload, 1) := by decide +kernel
theorem dL_law_800 : decode cL_law 800 = .ok (.aload_n 0, 1) := by decide +kernel
theorem dL_law_801 : decode cL_law 801 = .ok (.iload_n 3, 1) := by decide +kernel
theorem dL_law_802 : decode cL_law 802 = .ok (.iconst 2, 1) := by decide +kernel
theorem dL_law_803 : decode cL_law 803 = .ok (.iadd, 1) := by decide +kernel
theorem dL_law_804 : decode cL_law 804 = .ok (.iaload, 1) := by decide +kernel
theorem dL_law_805 : decode cL_law 805 = .ok (.invokevirtual 90, 3) := by decide +kernel
theorem dL_law_808 : decode cL_law 808 = .ok (.aload_n 2, 1) := by decide +kernel
theorem dL_law_809 : decode cL_law 809 = .ok (.aload_n 0, 1) := by decide +kernel
theorem dL_law_810 : decode cL_law 810 = .ok (.iload_n 3, 1) := by decide +kernel
theorem dL_law_811 : decode cL_law 811 = .ok (.iconst 1, 1) := by decide +kernel
theorem dL_law_812 : decode cL_law 812 = .ok (.iadd, 1) := by decide +kernel
theorem dL_law_813 : decode cL_law 813 = .ok (.iaload, 1) := by decide +kernel
theorem dL_law_814 : decode cL_law 814 = .ok (.aload_n 0, 1) := by decide +kernel
theorem dL_law_815 : decode cL_law 815 = .ok (.iload_n 3, 1) := by decide +kernel
theorem dL_law_816 : decode cL_law 816 = .ok (.iconst 2, 1) := by decide +kernel
theorem dL_law_817 : decode cL_law 817 = .ok (.iadd, 1) := by decide +kernel
theorem dL_law_818 : decode cL_law 818 = .ok (.iaload, 1) := by decide +kernel
theorem dL_law_819 : decode cL_law 819 = .ok (.invokevirtual 93, 3) := by decide +kernel
theorem dL_law_822 : decode cL_law 822 = .ok (.if_icmp .eq 717, 3) := by decide +kernel
theorem dL_law_825 : decode cL_law 825 = .ok (.iconst 0, 1) := by decide +kernel
theorem dL_law_826 : decode cL_law 826 = .ok (.ireturn, 1) := by decide +kernel
theorem dL_law_827 : decode cL_law 827 = .ok (.aload_n 1, 1) := by decide +kernel
theorem dL_law_828 : decode cL_law 828 = .ok (.invokevirtual 94, 3) := by decide +kernel
theorem dL_law_831 : decode cL_law 831 = .ok (.aload_n 2, 1) := by decide +kernel
theorem dL_law_832 : decode cL_law 832 = .ok (.invokevirtual 97, 3) := by decide +kernel
theorem dL_law_835 : decode cL_law 835 = .ok (.if_icmp .eq 704, 3) := by decide +kernel
theorem dL_law_838 : decode cL_law 838 = .ok (.iconst 0, 1) := by decide +kernel
theorem dL_law_839 : decode cL_law 839 = .ok (.ireturn, 1) := by decide +kernel
theorem dL_law_840 : decode cL_law 840 = .ok (.aload_n 1, 1) := by decide +kernel
theorem dL_law_841 : decode cL_law 841 = .ok (.aload_n 0, 1) := by decide +kernel
theorem dL_law_842 : decode cL_law 842 = .ok (.iload_n 3, 1) := by decide +kernel
theorem dL_law_843 : decode cL_law 843 = .ok (.iconst 1, 1) := by decide +kernel
theorem dL_law_844 : decode cL_law 844 = .ok (.iadd, 1) := by decide +kernel
theorem dL_law_845 : decode cL_law 845 = .ok (.iaload, 1) := by decide +kernel
theorem dL_law_846 : decode cL_law 846 = .ok (.aload_n 0, 1) := by decide +kernel
theorem dL_law_847 : decode cL_law 847 = .ok (.iload_n 3, 1) := by decide +kernel
theorem dL_law_848 : decode cL_law 848 = .ok (.iconst 2, 1) := by decide +kernel
theorem dL_law_849 : decode cL_law 849 = .ok (.iadd, 1) := by decide +kernel
theorem dL_law_850 : decode cL_law 850 = .ok (.iaload, 1) := by decide +kernel
theorem dL_law_851 : decode cL_law 851 = .ok (.aload_n 0, 1) := by decide +kernel
theorem dL_law_852 : decode cL_law 852 = .ok (.iload_n 3, 1) := by decide +kernel
theorem dL_law_853 : decode cL_law 853 = .ok (.iconst 3, 1) := by decide +kernel
theorem dL_law_854 : decode cL_law 854 = .ok (.iadd, 1) := by decide +kernel
theorem dL_law_855 : decode cL_law 855 = .ok (.iaload, 1) := by decide +kernel
theorem dL_law_856 : decode cL_law 856 = .ok (.invokevirtual 98, 3) := by decide +kernel
theorem dL_law_859 : decode cL_law 859 = .ok (.aload_n 2, 1) := by decide +kernel
theorem dL_law_860 : decode cL_law 860 = .ok (.aload_n 0, 1) := by decide +kernel
theorem dL_law_861 : decode cL_law 861 = .ok (.iload_n 3, 1) := by decide +kernel
theorem dL_law_862 : decode cL_law 862 = .ok (.iconst 1, 1) := by decide +kernel
theorem dL_law_863 : decode cL_law 863 = .ok (.iadd, 1) := by decide +kernel
theorem dL_law_864 : decode cL_law 864 = .ok (.iaload, 1) := by decide +kernel
theorem dL_law_865 : decode cL_law 865 = .ok (.aload_n 0, 1) := by decide +kernel
theorem dL_law_866 : decode cL_law 866 = .ok (.iload_n 3, 1) := by decide +kernel
theorem dL_law_867 : decode cL_law 867 = .ok (.iconst 2, 1) := by decide +kernel
theorem dL_law_868 : decode cL_law 868 = .ok (.iadd, 1) := by decide +kernel
theorem dL_law_869 : decode cL_law 869 = .ok (.iaload, 1) := by decide +kernel
theorem dL_law_870 : decode cL_law 870 = .ok (.aload_n 0, 1) := by decide +kernel
theorem dL_law_871 : decode cL_law 871 = .ok (.iload_n 3, 1) := by decide +kernel
theorem dL_law_872 : decode cL_law 872 = .ok (.iconst 3, 1) := by decide +kernel
theorem dL_law_873 : decode cL_law 873 = .ok (.iadd, 1) := by decide +kernel
theorem dL_law_874 : decode cL_law 874 = .ok (.iaload, 1) := by decide +kernel
theorem dL_law_875 : decode cL_law 875 = .ok (.invokevirtual 101, 3) := by decide +kernel
theorem dL_law_878 : decode cL_law 878 = .ok (.if_icmp .eq 661, 3) := by decide +kernel
theorem dL_law_881 : decode cL_law 881 = .ok (.iconst 0, 1) := by decide +kernel
theorem dL_law_882 : decode cL_law 882 = .ok (.ireturn, 1) := by decide +kernel
theorem dL_law_883 : decode cL_law 883 = .ok (.aload_n 1, 1) := by decide +kernel
theorem dL_law_884 : decode cL_law 884 = .ok (.aload_n 0, 1) := by decide +kernel
theorem dL_law_885 : decode cL_law 885 = .ok (.iload_n 3, 1) := by decide +kernel
theorem dL_law_886 : decode cL_law 886 = .ok (.iconst 1, 1) := by decide +kernel
theorem dL_law_887 : decode cL_law 887 = .ok (.iadd, 1) := by decide +kernel
theorem dL_law_888 : decode cL_law 888 = .ok (.iaload, 1) := by decide +kernel
theorem dL_law_889 : decode cL_law 889 = .ok (.aload_n 0, 1) := by decide +kernel
theorem dL_law_890 : decode cL_law 890 = .ok (.iload_n 3, 1) := by decide +kernel
theorem dL_law_891 : decode cL_law 891 = .ok (.iconst 2, 1) := by decide +kernel
theorem dL_law_892 : decode cL_law 892 = .ok (.iadd, 1) := by decide +kernel
theorem dL_law_893 : decode cL_law 893 = .ok (.iaload, 1) := by decide +kernel
theorem dL_law_894 : decode cL_law 894 = .ok (.invokevirtual 102, 3) := by decide +kernel
theorem dL_law_897 : decode cL_law 897 = .ok (.aload_n 2, 1) := by decide +kernel
theorem dL_law_898 : decode cL_law 898 = .ok (.aload_n 0, 1) := by decide +kernel
theorem dL_law_899 : decode cL_law 899 = .ok (.iload_n 3, 1) := by decide +kernel
theorem dL_law_900 : decode cL_law 900 = .ok (.iconst 1, 1) := by decide +kernel
theorem dL_law_901 : decode cL_law 901 = .ok (.iadd, 1) := by decide +kernel
theorem dL_law_902 : decode cL_law 902 = .ok (.iaload, 1) := by decide +kernel
theorem dL_law_903 : decode cL_law 903 = .ok (.aload_n 0, 1) := by decide +kernel
theorem dL_law_904 : decode cL_law 904 = .ok (.iload_n 3, 1) := by decide +kernel
theorem dL_law_905 : decode cL_law 905 = .ok (.iconst 2, 1) := by decide +kernel
theorem dL_law_906 : decode cL_law 906 = .ok (.iadd, 1) := by decide +kernel
theorem dL_law_907 : decode cL_law 907 = .ok (.iaload, 1) := by decide +kernel
theorem dL_law_908 : decode cL_law 908 = .ok (.invokevirtual 105, 3) := by decide +kernel
theorem dL_law_911 : decode cL_law 911 = .ok (.if_icmp .eq 628, 3) := by decide +kernel
theorem dL_law_914 : decode cL_law 914 = .ok (.iconst 0, 1) := by decide +kernel
theorem dL_law_915 : decode cL_law 915 = .ok (.ireturn, 1) := by decide +kernel
theorem dL_law_916 : decode cL_law 916 = .ok (.aload_n 1, 1) := by decide +kernel
theorem dL_law_917 : decode cL_law 917 = .ok (.aload_n 0, 1) := by decide +kernel
theorem dL_law_918 : decode cL_law 918 = .ok (.iload_n 3, 1) := by decide +kernel
theorem dL_law_919 : decode cL_law 919 = .ok (.iconst 1, 1) := by decide +kernel
theorem dL_law_920 : decode cL_law 920 = .ok (.iadd, 1) := by decide +kernel
theorem dL_law_921 : decode cL_law 921 = .ok (.iaload, 1) := by decide +kernel
theorem dL_law_922 : decode cL_law 922 = .ok (.aload_n 0, 1) := by decide +kernel
theorem dL_law_923 : decode cL_law 923 = .ok (.iload_n 3, 1) := by decide +kernel
theorem dL_law_924 : decode cL_law 924 = .ok (.iconst 2, 1) := by decide +kernel
theorem dL_law_925 : decode cL_law 925 = .ok (.iadd, 1) := by decide +kernel
theorem dL_law_926 : decode cL_law 926 = .ok (.iaload, 1) := by decide +kernel
theorem dL_law_927 : decode cL_law 927 = .ok (.invokevirtual 106, 3) := by decide +kernel
theorem dL_law_930 : decode cL_law 930 = .ok (.aload_n 2, 1) := by decide +kernel
theorem dL_law_931 : decode cL_law 931 = .ok (.aload_n 0, 1) := by decide +kernel
theorem dL_law_932 : decode cL_law 932 = .ok (.iload_n 3, 1) := by decide +kernel
theorem dL_law_933 : decode cL_law 933 = .ok (.iconst 1, 1) := by decide +kernel
theorem dL_law_934 : decode cL_law 934 = .ok (.iadd, 1) := by decide +kernel
theorem dL_law_935 : decode cL_law 935 = .ok (.iaload, 1) := by decide +kernel
theorem dL_law_936 : decode cL_law 936 = .ok (.aload_n 0, 1) := by decide +kernel
theorem dL_law_937 : decode cL_law 937 = .ok (.iload_n 3, 1) := by decide +kernel
theorem dL_law_938 : decode cL_law 938 = .ok (.iconst 2, 1) := by decide +kernel
theorem dL_law_939 : decode cL_law 939 = .ok (.iadd, 1) := by decide +kernel
theorem dL_law_940 : decode cL_law 940 = .ok (.iaload, 1) := by decide +kernel
theorem dL_law_941 : decode cL_law 941 = .ok (.invokevirtual 109, 3) := by decide +kernel
theorem dL_law_944 : decode cL_law 944 = .ok (.if_icmp .eq 595, 3) := by decide +kernel
theorem dL_law_947 : decode cL_law 947 = .ok (.iconst 0, 1) := by decide +kernel
theorem dL_law_948 : decode cL_law 948 = .ok (.ireturn, 1) := by decide +kernel
theorem dL_law_949 : decode cL_law 949 = .ok (.aload_n 1, 1) := by decide +kernel
theorem dL_law_950 : decode cL_law 950 = .ok (.aload_n 0, 1) := by decide +kernel
theorem dL_law_951 : decode cL_law 951 = .ok (.iload_n 3, 1) := by decide +kernel
theorem dL_law_952 : decode cL_law 952 = .ok (.iconst 1, 1) := by decide +kernel
theorem dL_law_953 : decode cL_law 953 = .ok (.iadd, 1) := by decide +kernel
theorem dL_law_954 : decode cL_law 954 = .ok (.iaload, 1) := by decide +kernel
theorem dL_law_955 : decode cL_law 955 = .ok (.invokevirtual 110, 3) := by decide +kernel
theorem dL_law_958 : decode cL_law 958 = .ok (.aload_n 2, 1) := by decide +kernel
theorem dL_law_959 : decode cL_law 959 = .ok (.aload_n 0, 1) := by decide +kernel
theorem dL_law_960 : decode cL_law 960 = .ok (.iload_n 3, 1) := by decide +kernel
theorem dL_law_961 : decode cL_law 961 = .ok (.iconst 1, 1) := by decide +kernel
theorem dL_law_962 : decode cL_law 962 = .ok (.iadd, 1) := by decide +kernel
theorem dL_law_963 : decode cL_law 963 = .ok (.iaload, 1) := by decide +kernel
theorem dL_law_964 : decode cL_law 964 = .ok (.invokevirtual 113, 3) := by decide +kernel
theorem dL_law_967 : decode cL_law 967 = .ok (.if_icmp .eq 572, 3) := by decide +kernel
theorem dL_law_970 : decode cL_law 970 = .ok (.iconst 0, 1) := by decide +kernel
theorem dL_law_971 : decode cL_law 971 = .ok (.ireturn, 1) := by decide +kernel
theorem dL_law_972 : decode cL_law 972 = .ok (.aload_n 1, 1) := by decide +kernel
theorem dL_law_973 : decode cL_law 973 = .ok (.aload_n 0, 1) := by decide +kernel
theorem dL_law_974 : decode cL_law 974 = .ok (.iload_n 3, 1) := by decide +kernel
theorem dL_law_975 : decode cL_law 975 = .ok (.iconst 1, 1) := by decide +kernel
theorem dL_law_976 : decode cL_law 976 = .ok (.iadd, 1) := by decide +kernel
theorem dL_law_977 : decode cL_law 977 = .ok (.iaload, 1) := by decide +kernel
theorem dL_law_978 : decode cL_law 978 = .ok (.aload_n 0, 1) := by decide +kernel
theorem dL_law_979 : decode cL_law 979 = .ok (.iload_n 3, 1) := by decide +kernel
theorem dL_law_980 : decode cL_law 980 = .ok (.iconst 2, 1) := by decide +kernel
theorem dL_law_981 : decode cL_law 981 = .ok (.iadd, 1) := by decide +kernel
theorem dL_law_982 : decode cL_law 982 = .ok (.iaload, 1) := by decide +kernel
theorem dL_law_983 : decode cL_law 983 = .ok (.aload_n 0, 1) := by decide +kernel
theorem dL_law_984 : decode cL_law 984 = .ok (.iload_n 3, 1) := by decide +kernel
theorem dL_law_985 : decode cL_law 985 = .ok (.iconst 3, 1) := by decide +kernel
theorem dL_law_986 : decode cL_law 986 = .ok (.iadd, 1) := by decide +kernel
theorem dL_law_987 : decode cL_law 987 = .ok (.iaload, 1) := by decide +kernel
theorem dL_law_988 : decode cL_law 988 = .ok (.invokevirtual 114, 3) := by decide +kernel
theorem dL_law_991 : decode cL_law 991 = .ok (.aload_n 2, 1) := by decide +kernel
theorem dL_law_992 : decode cL_law 992 = .ok (.aload_n 0, 1) := by decide +kernel
theorem dL_law_993 : decode cL_law 993 = .ok (.iload_n 3, 1) := by decide +kernel
theorem dL_law_994 : decode cL_law 994 = .ok (.iconst 1, 1) := by decide +kernel
theorem dL_law_995 : decode cL_law 995 = .ok (.iadd, 1) := by decide +kernel
theorem dL_law_996 : decode cL_law 996 = .ok (.iaload, 1) := by decide +kernel
theorem dL_law_997 : decode cL_law 997 = .ok (.aload_n 0, 1) := by decide +kernel
theorem dL_law_998 : decode cL_law 998 = .ok (.iload_n 3, 1) := by decide +kernel
theorem dL_law_999 : decode cL_law 999 = .ok (.iconst 2, 1) := by decide +kernel
theorem dL_law_1000 : decode cL_law 1000 = .ok (.iadd, 1) := by decide +kernel
theorem dL_law_1001 : decode cL_law 1001 = .ok (.iaload, 1) := by decide +kernel
theorem dL_law_1002 : decode cL_law 1002 = .ok (.aload_n 0, 1) := by decide +kernel
theorem dL_law_1003 : decode cL_law 1003 = .ok (.iload_n 3, 1) := by decide +kernel
theorem dL_law_1004 : decode cL_law 1004 = .ok (.iconst 3, 1) := by decide +kernel
theorem dL_law_1005 : decode cL_law 1005 = .ok (.iadd, 1) := by decide +kernel
theorem dL_law_1006 : decode cL_law 1006 = .ok (.iaload, 1) := by decide +kernel
theorem dL_law_1007 : decode cL_law 1007 = .ok (.invokevirtual 117, 3) := by decide +kernel
theorem dL_law_1010 : decode cL_law 1010 = .ok (.if_icmp .eq 529, 3) := by decide +kernel
theorem dL_law_1013 : decode cL_law 1013 = .ok (.iconst 0, 1) := by decide +kernel
theorem dL_law_1014 : decode cL_law 1014 = .ok (.ireturn, 1) := by decide +kernel
theorem dL_law_1015 : decode cL_law 1015 = .ok (.aload_n 1, 1) := by decide +kernel
theorem dL_law_1016 : decode cL_law 1016 = .ok (.aload_n 0, 1) := by decide +kernel
theorem dL_law_1017 : decode cL_law 1017 = .ok (.iload_n 3, 1) := by decide +kernel
theorem dL_law_1018 : decode cL_law 1018 = .ok (.iconst 1, 1) := by decide +kernel
theorem dL_law_1019 : decode cL_law 1019 = .ok (.iadd, 1) := by decide +kernel
theorem dL_law_1020 : decode cL_law 1020 = .ok (.iaload, 1) := by decide +kernel
theorem dL_law_1021 : decode cL_law 1021 = .ok (.invokevirtual 118, 3) := by decide +kernel
theorem dL_law_1024 : decode cL_law 1024 = .ok (.aload_n 2, 1) := by decide +kernel
theorem dL_law_1025 : decode cL_law 1025 = .ok (.aload_n 0, 1) := by decide +kernel
theorem dL_law_1026 : decode cL_law 1026 = .ok (.iload_n 3, 1) := by decide +kernel
theorem dL_law_1027 : decode cL_law 1027 = .ok (.iconst 1, 1) := by decide +kernel
theorem dL_law_1028 : decode cL_law 1028 = .ok (.iadd, 1) := by decide +kernel
theorem dL_law_1029 : decode cL_law 1029 = .ok (.iaload, 1) := by decide +kernel
theorem dL_law_1030 : decode cL_law 1030 = .ok (.invokevirtual 121, 3) := by decide +kernel
theorem dL_law_1033 : decode cL_law 1033 = .ok (.if_icmp .eq 506, 3) := by decide +kernel
theorem dL_law_1036 : decode cL_law 1036 = .ok (.iconst 0, 1) := by decide +kernel
theorem dL_law_1037 : decode cL_law 1037 = .ok (.ireturn, 1) := by decide +kernel
theorem dL_law_1038 : decode cL_law 1038 = .ok (.aload_n 1, 1) := by decide +kernel
theorem dL_law_1039 : decode cL_law 1039 = .ok (.invokevirtual 122, 3) := by decide +kernel
theorem dL_law_1042 : decode cL_law 1042 = .ok (.aload_n 2, 1) := by decide +kernel
theorem dL_law_1043 : decode cL_law 1043 = .ok (.invokevirtual 125, 3) := by decide +kernel
theorem dL_law_1046 : decode cL_law 1046 = .ok (.if_icmp .eq 493, 3) := by decide +kernel
theorem dL_law_1049 : decode cL_law 1049 = .ok (.iconst 0, 1) := by decide +kernel
theorem dL_law_1050 : decode cL_law 1050 = .ok (.ireturn, 1) := by decide +kernel
theorem dL_law_1051 : decode cL_law 1051 = .ok (.aload_n 1, 1) := by decide +kernel
theorem dL_law_1052 : decode cL_law 1052 = .ok (.aload_n 0, 1) := by decide +kernel
theorem dL_law_1053 : decode cL_law 1053 = .ok (.iload_n 3, 1) := by decide +kernel
theorem dL_law_1054 : decode cL_law 1054 = .ok (.iconst 1, 1) := by decide +kernel
theorem dL_law_1055 : decode cL_law 1055 = .ok (.iadd, 1) := by decide +kernel
theorem dL_law_1056 : decode cL_law 1056 = .ok (.iaload, 1) := by decide +kernel
theorem dL_law_1057 : decode cL_law 1057 = .ok (.aload_n 0, 1) := by decide +kernel
theorem dL_law_1058 : decode cL_law 1058 = .ok (.iload_n 3, 1) := by decide +kernel
theorem dL_law_1059 : decode cL_law 1059 = .ok (.iconst 2, 1) := by decide +kernel
theorem dL_law_1060 : decode cL_law 1060 = .ok (.iadd, 1) := by decide +kernel
theorem dL_law_1061 : decode cL_law 1061 = .ok (.iaload, 1) := by decide +kernel
theorem dL_law_1062 : decode cL_law 1062 = .ok (.invokevirtual 126, 3) := by decide +kernel
theorem dL_law_1065 : decode cL_law 1065 = .ok (.aload_n 2, 1) := by decide +kernel
theorem dL_law_1066 : decode cL_law 1066 = .ok (.aload_n 0, 1) := by decide +kernel
theorem dL_law_1067 : decode cL_law 1067 = .ok (.iload_n 3, 1) := by decide +kernel
theorem dL_law_1068 : decode cL_law 1068 = .ok (.iconst 1, 1) := by decide +kernel
theorem dL_law_1069 : decode cL_law 1069 = .ok (.iadd, 1) := by decide +kernel
theorem dL_law_1070 : decode cL_law 1070 = .ok (.iaload, 1) := by decide +kernel
theorem dL_law_1071 : decode cL_law 1071 = .ok (.aload_n 0, 1) := by decide +kernel
theorem dL_law_1072 : decode cL_law 1072 = .ok (.iload_n 3, 1) := by decide +kernel
theorem dL_law_1073 : decode cL_law 1073 = .ok (.iconst 2, 1) := by decide +kernel
theorem dL_law_1074 : decode cL_law 1074 = .ok (.iadd, 1) := by decide +kernel
theorem dL_law_1075 : decode cL_law 1075 = .ok (.iaload, 1) := by decide +kernel
theorem dL_law_1076 : decode cL_law 1076 = .ok (.invokevirtual 129, 3) := by decide +kernel
theorem dL_law_1079 : decode cL_law 1079 = .ok (.if_icmp .eq 460, 3) := by decide +kernel
theorem dL_law_1082 : decode cL_law 1082 = .ok (.iconst 0, 1) := by decide +kernel
theorem dL_law_1083 : decode cL_law 1083 = .ok (.ireturn, 1) := by decide +kernel
theorem dL_law_1084 : decode cL_law 1084 = .ok (.aload_n 1, 1) := by decide +kernel
theorem dL_law_1085 : decode cL_law 1085 = .ok (.aload_n 0, 1) := by decide +kernel
theorem dL_law_1086 : decode cL_law 1086 = .ok (.iload_n 3, 1) := by decide +kernel
theorem dL_law_1087 : decode cL_law 1087 = .ok (.iconst 1, 1) := by decide +kernel
theorem dL_law_1088 : decode cL_law 1088 = .ok (.iadd, 1) := by decide +kernel
theorem dL_law_1089 : decode cL_law 1089 = .ok (.iaload, 1) := by decide +kernel
theorem dL_law_1090 : decode cL_law 1090 = .ok (.invokevirtual 130, 3) := by decide +kernel
theorem dL_law_1093 : decode cL_law 1093 = .ok (.aload_n 2, 1) := by decide +kernel
theorem dL_law_1094 : decode cL_law 1094 = .ok (.aload_n 0, 1) := by decide +kernel
theorem dL_law_1095 : decode cL_law 1095 = .ok (.iload_n 3, 1) := by decide +kernel
theorem dL_law_1096 : decode cL_law 1096 = .ok (.iconst 1, 1) := by decide +kernel
theorem dL_law_1097 : decode cL_law 1097 = .ok (.iadd, 1) := by decide +kernel
theorem dL_law_1098 : decode cL_law 1098 = .ok (.iaload, 1) := by decide +kernel
theorem dL_law_1099 : decode cL_law 1099 = .ok (.invokevirtual 133, 3) := by decide +kernel
theorem dL_law_1102 : decode cL_law 1102 = .ok (.if_icmp .eq 437, 3) := by decide +kernel
theorem dL_law_1105 : decode cL_law 1105 = .ok (.iconst 0, 1) := by decide +kernel
theorem dL_law_1106 : decode cL_law 1106 = .ok (.ireturn, 1) := by decide +kernel
theorem dL_law_1107 : decode cL_law 1107 = .ok (.aload_n 1, 1) := by decide +kernel
theorem dL_law_1108 : decode cL_law 1108 = .ok (.aload_n 0, 1) := by decide +kernel
theorem dL_law_1109 : decode cL_law 1109 = .ok (.iload_n 3, 1) := by decide +kernel
theorem dL_law_1110 : decode cL_law 1110 = .ok (.iconst 1, 1) := by decide +kernel
theorem dL_law_1111 : decode cL_law 1111 = .ok (.iadd, 1) := by decide +kernel
theorem dL_law_1112 : decode cL_law 1112 = .ok (.iaload, 1) := by decide +kernel
theorem dL_law_1113 : decode cL_law 1113 = .ok (.aload_n 0, 1) := by decide +kernel
theorem dL_law_1114 : decode cL_law 1114 = .ok (.iload_n 3, 1) := by decide +kernel
theorem dL_law_1115 : decode cL_law 1115 = .ok (.iconst 2, 1) := by decide +kernel
theorem dL_law_1116 : decode cL_law 1116 = .ok (.iadd, 1) := by decide +kernel
theorem dL_law_1117 : decode cL_law 1117 = .ok (.iaload, 1) := by decide +kernel
theorem dL_law_1118 : decode cL_law 1118 = .ok (.aload_n 0, 1) := by decide +kernel
theorem dL_law_1119 : decode cL_law 1119 = .ok (.iload_n 3, 1) := by decide +kernel
theorem dL_law_1120 : decode cL_law 1120 = .ok (.iconst 3, 1) := by decide +kernel
theorem dL_law_1121 : decode cL_law 1121 = .ok (.iadd, 1) := by decide +kernel
theorem dL_law_1122 : decode cL_law 1122 = .ok (.iaload, 1) := by decide +kernel
theorem dL_law_1123 : decode cL_law 1123 = .ok (.invokevirtual 134, 3) := by decide +kernel
theorem dL_law_1126 : decode cL_law 1126 = .ok (.aload_n 2, 1) := by decide +kernel
theorem dL_law_1127 : decode cL_law 1127 = .ok (.aload_n 0, 1) := by decide +kernel
theorem dL_law_1128 : decode cL_law 1128 = .ok (.iload_n 3, 1) := by decide +kernel
theorem dL_law_1129 : decode cL_law 1129 = .ok (.iconst 1, 1) := by decide +kernel
theorem dL_law_1130 : decode cL_law 1130 = .ok (.iadd, 1) := by decide +kernel
theorem dL_law_1131 : decode cL_law 1131 = .ok (.iaload, 1) := by decide +kernel
theorem dL_law_1132 : decode cL_law 1132 = .ok (.aload_n 0, 1) := by decide +kernel
theorem dL_law_1133 : decode cL_law 1133 = .ok (.iload_n 3, 1) := by decide +kernel
theorem dL_law_1134 : decode cL_law 1134 = .ok (.iconst 2, 1) := by decide +kernel
theorem dL_law_1135 : decode cL_law 1135 = .ok (.iadd, 1) := by decide +kernel
theorem dL_law_1136 : decode cL_law 1136 = .ok (.iaload, 1) := by decide +kernel
theorem dL_law_1137 : decode cL_law 1137 = .ok (.aload_n 0, 1) := by decide +kernel
theorem dL_law_1138 : decode cL_law 1138 = .ok (.iload_n 3, 1) := by decide +kernel
theorem dL_law_1139 : decode cL_law 1139 = .ok (.iconst 3, 1) := by decide +kernel
theorem dL_law_1140 : decode cL_law 1140 = .ok (.iadd, 1) := by decide +kernel
theorem dL_law_1141 : decode cL_law 1141 = .ok (.iaload, 1) := by decide +kernel
theorem dL_law_1142 : decode cL_law 1142 = .ok (.invokevirtual 137, 3) := by decide +kernel
theorem dL_law_1145 : decode cL_law 1145 = .ok (.if_icmp .eq 394, 3) := by decide +kernel
theorem dL_law_1148 : decode cL_law 1148 = .ok (.iconst 0, 1) := by decide +kernel
theorem dL_law_1149 : decode cL_law 1149 = .ok (.ireturn, 1) := by decide +kernel
theorem dL_law_1150 : decode cL_law 1150 = .ok (.aload_n 1, 1) := by decide +kernel
theorem dL_law_1151 : decode cL_law 1151 = .ok (.aload_n 0, 1) := by decide +kernel
theorem dL_law_1152 : decode cL_law 1152 = .ok (.iload_n 3, 1) := by decide +kernel
theorem dL_law_1153 : decode cL_law 1153 = .ok (.iconst 1, 1) := by decide +kernel
theorem dL_law_1154 : decode cL_law 1154 = .ok (.iadd, 1) := by decide +kernel
theorem dL_law_1155 : decode cL_law 1155 = .ok (.iaload, 1) := by decide +kernel
theorem dL_law_1156 : decode cL_law 1156 = .ok (.aload_n 0, 1) := by decide +kernel
theorem dL_law_1157 : decode cL_law 1157 = .ok (.iload_n 3, 1) := by decide +kernel
theorem dL_law_1158 : decode cL_law 1158 = .ok (.iconst 2, 1) := by decide +kernel
theorem dL_law_1159 : decode cL_law 1159 = .ok (.iadd, 1) := by decide +kernel
theorem dL_law_1160 : decode cL_law 1160 = .ok (.iaload, 1) := by decide +kernel
theorem dL_law_1161 : decode cL_law 1161 = .ok (.aload_n 0, 1) := by decide +kernel
theorem dL_law_1162 : decode cL_law 1162 = .ok (.iload_n 3, 1) := by decide +kernel
theorem dL_law_1163 : decode cL_law 1163 = .ok (.iconst 3, 1) := by decide +kernel
theorem dL_law_1164 : decode cL_law 1164 = .ok (.iadd, 1) := by decide +kernel
theorem dL_law_1165 : decode cL_law 1165 = .ok (.iaload, 1) := by decide +kernel
theorem dL_law_1166 : decode cL_law 1166 = .ok (.invokevirtual 138, 3) := by decide +kernel
theorem dL_law_1169 : decode cL_law 1169 = .ok (.aload_n 2, 1) := by decide +kernel
theorem dL_law_1170 : decode cL_law 1170 = .ok (.aload_n 0, 1) := by decide +kernel
theorem dL_law_1171 : decode cL_law 1171 = .ok (.iload_n 3, 1) := by decide +kernel
theorem dL_law_1172 : decode cL_law 1172 = .ok (.iconst 1, 1) := by decide +kernel
theorem dL_law_1173 : decode cL_law 1173 = .ok (.iadd, 1) := by decide +kernel
theorem dL_law_1174 : decode cL_law 1174 = .ok (.iaload, 1) := by decide +kernel
theorem dL_law_1175 : decode cL_law 1175 = .ok (.aload_n 0, 1) := by decide +kernel
theorem dL_law_1176 : decode cL_law 1176 = .ok (.iload_n 3, 1) := by decide +kernel
theorem dL_law_1177 : decode cL_law 1177 = .ok (.iconst 2, 1) := by decide +kernel
theorem dL_law_1178 : decode cL_law 1178 = .ok (.iadd, 1) := by decide +kernel
theorem dL_law_1179 : decode cL_law 1179 = .ok (.iaload, 1) := by decide +kernel
theorem dL_law_1180 : decode cL_law 1180 = .ok (.aload_n 0, 1) := by decide +kernel
theorem dL_law_1181 : decode cL_law 1181 = .ok (.iload_n 3, 1) := by decide +kernel
theorem dL_law_1182 : decode cL_law 1182 = .ok (.iconst 3, 1) := by decide +kernel
theorem dL_law_1183 : decode cL_law 1183 = .ok (.iadd, 1) := by decide +kernel
theorem dL_law_1184 : decode cL_law 1184 = .ok (.iaload, 1) := by decide +kernel
theorem dL_law_1185 : decode cL_law 1185 = .ok (.invokevirtual 141, 3) := by decide +kernel
theorem dL_law_1188 : decode cL_law 1188 = .ok (.if_icmp .eq 351, 3) := by decide +kernel
theorem dL_law_1191 : decode cL_law 1191 = .ok (.iconst 0, 1) := by decide +kernel
theorem dL_law_1192 : decode cL_law 1192 = .ok (.ireturn, 1) := by decide +kernel
theorem dL_law_1193 : decode cL_law 1193 = .ok (.aload_n 1, 1) := by decide +kernel
theorem dL_law_1194 : decode cL_law 1194 = .ok (.aload_n 0, 1) := by decide +kernel
theorem dL_law_1195 : decode cL_law 1195 = .ok (.iload_n 3, 1) := by decide +kernel
theorem dL_law_1196 : decode cL_law 1196 = .ok (.iconst 1, 1) := by decide +kernel
theorem dL_law_1197 : decode cL_law 1197 = .ok (.iadd, 1) := by decide +kernel
theorem dL_law_1198 : decode cL_law 1198 = .ok (.iaload, 1) := by decide +kernel
theorem dL_law_1199 : decode cL_law 1199 = .ok (.invokevirtual 142, 3) := by decide +kernel
theorem dL_law_1202 : decode cL_law 1202 = .ok (.aload_n 2, 1) := by decide +kernel
theorem dL_law_1203 : decode cL_law 1203 = .ok (.aload_n 0, 1) := by decide +kernel
theorem dL_law_1204 : decode cL_law 1204 = .ok (.iload_n 3, 1) := by decide +kernel
theorem dL_law_1205 : decode cL_law 1205 = .ok (.iconst 1, 1) := by decide +kernel
theorem dL_law_1206 : decode cL_law 1206 = .ok (.iadd, 1) := by decide +kernel
theorem dL_law_1207 : decode cL_law 1207 = .ok (.iaload, 1) := by decide +kernel
theorem dL_law_1208 : decode cL_law 1208 = .ok (.invokevirtual 145, 3) := by decide +kernel
theorem dL_law_1211 : decode cL_law 1211 = .ok (.if_icmp .eq 328, 3) := by decide +kernel
theorem dL_law_1214 : decode cL_law 1214 = .ok (.iconst 0, 1) := by decide +kernel
theorem dL_law_1215 : decode cL_law 1215 = .ok (.ireturn, 1) := by decide +kernel
theorem dL_law_1216 : decode cL_law 1216 = .ok (.aload_n 1, 1) := by decide +kernel
theorem dL_law_1217 : decode cL_law 1217 = .ok (.aload_n 0, 1) := by decide +kernel
theorem dL_law_1218 : decode cL_law 1218 = .ok (.iload_n 3, 1) := by decide +kernel
theorem dL_law_1219 : decode cL_law 1219 = .ok (.iconst 1, 1) := by decide +kernel
theorem dL_law_1220 : decode cL_law 1220 = .ok (.iadd, 1) := by decide +kernel
theorem dL_law_1221 : decode cL_law 1221 = .ok (.iaload, 1) := by decide +kernel
theorem dL_law_1222 : decode cL_law 1222 = .ok (.invokevirtual 146, 3) := by decide +kernel
theorem dL_law_1225 : decode cL_law 1225 = .ok (.aload_n 2, 1) := by decide +kernel
theorem dL_law_1226 : decode cL_law 1226 = .ok (.aload_n 0, 1) := by decide +kernel
theorem dL_law_1227 : decode cL_law 1227 = .ok (.iload_n 3, 1) := by decide +kernel
theorem dL_law_1228 : decode cL_law 1228 = .ok (.iconst 1, 1) := by decide +kernel
theorem dL_law_1229 : decode cL_law 1229 = .ok (.iadd, 1) := by decide +kernel
theorem dL_law_1230 : decode cL_law 1230 = .ok (.iaload, 1) := by decide +kernel
theorem dL_law_1231 : decode cL_law 1231 = .ok (.invokevirtual 149, 3) := by decide +kernel
theorem dL_law_1234 : decode cL_law 1234 = .ok (.if_icmp .eq 305, 3) := by decide +kernel
theorem dL_law_1237 : decode cL_law 1237 = .ok (.iconst 0, 1) := by decide +kernel
theorem dL_law_1238 : decode cL_law 1238 = .ok (.ireturn, 1) := by decide +kernel
theorem dL_law_1239 : decode cL_law 1239 = .ok (.aload_n 1, 1) := by decide +kernel
theorem dL_law_1240 : decode cL_law 1240 = .ok (.aload_n 0, 1) := by decide +kernel
theorem dL_law_1241 : decode cL_law 1241 = .ok (.iload_n 3, 1) := by decide +kernel
theorem dL_law_1242 : decode cL_law 1242 = .ok (.iconst 1, 1) := by decide +kernel
theorem dL_law_1243 : decode cL_law 1243 = .ok (.iadd, 1) := by decide +kernel
theorem dL_law_1244 : decode cL_law 1244 = .ok (.iaload, 1) := by decide +kernel
theorem dL_law_1245 : decode cL_law 1245 = .ok (.aload_n 0, 1) := by decide +kernel
theorem dL_law_1246 : decode cL_law 1246 = .ok (.iload_n 3, 1) := by decide +kernel
theorem dL_law_1247 : decode cL_law 1247 = .ok (.iconst 2, 1) := by decide +kernel
theorem dL_law_1248 : decode cL_law 1248 = .ok (.iadd, 1) := by decide +kernel
theorem dL_law_1249 : decode cL_law 1249 = .ok (.iaload, 1) := by decide +kernel
theorem dL_law_1250 : decode cL_law 1250 = .ok (.aload_n 0, 1) := by decide +kernel
theorem dL_law_1251 : decode cL_law 1251 = .ok (.iload_n 3, 1) := by decide +kernel
theorem dL_law_1252 : decode cL_law 1252 = .ok (.iconst 3, 1) := by decide +kernel
theorem dL_law_1253 : decode cL_law 1253 = .ok (.iadd, 1) := by decide +kernel
theorem dL_law_1254 : decode cL_law 1254 = .ok (.iaload, 1) := by decide +kernel
theorem dL_law_1255 : decode cL_law 1255 = .ok (.aload_n 0, 1) := by decide +kernel
theorem dL_law_1256 : decode cL_law 1256 = .ok (.iload_n 3, 1) := by decide +kernel
theorem dL_law_1257 : decode cL_law 1257 = .ok (.iconst 4, 1) := by decide +kernel
theorem dL_law_1258 : decode cL_law 1258 = .ok (.iadd, 1) := by decide +kernel
theorem dL_law_1259 : decode cL_law 1259 = .ok (.iaload, 1) := by decide +kernel
theorem dL_law_1260 : decode cL_law 1260 = .ok (.aload_n 0, 1) := by decide +kernel
theorem dL_law_1261 : decode cL_law 1261 = .ok (.iload_n 3, 1) := by decide +kernel
theorem dL_law_1262 : decode cL_law 1262 = .ok (.iconst 5, 1) := by decide +kernel
theorem dL_law_1263 : decode cL_law 1263 = .ok (.iadd, 1) := by decide +kernel
theorem dL_law_1264 : decode cL_law 1264 = .ok (.iaload, 1) := by decide +kernel
theorem dL_law_1265 : decode cL_law 1265 = .ok (.invokevirtual 150, 3) := by decide +kernel
theorem dL_law_1268 : decode cL_law 1268 = .ok (.aload_n 2, 1) := by decide +kernel
theorem dL_law_1269 : decode cL_law 1269 = .ok (.aload_n 0, 1) := by decide +kernel
theorem dL_law_1270 : decode cL_law 1270 = .ok (.iload_n 3, 1) := by decide +kernel
theorem dL_law_1271 : decode cL_law 1271 = .ok (.iconst 1, 1) := by decide +kernel
theorem dL_law_1272 : decode cL_law 1272 = .ok (.iadd, 1) := by decide +kernel
theorem dL_law_1273 : decode cL_law 1273 = .ok (.iaload, 1) := by decide +kernel
theorem dL_law_1274 : decode cL_law 1274 = .ok (.aload_n 0, 1) := by decide +kernel
theorem dL_law_1275 : decode cL_law 1275 = .ok (.iload_n 3, 1) := by decide +kernel
end
section
theorem dL_law_1276 : decode cL_law 1276 = .ok (.iconst 2, 1) := by decide +kernel
theorem dL_law_1277 : decode cL_law 1277 = .ok (.iadd, 1) := by decide +kernel
theorem dL_law_1278 : decode cL_law 1278 = .ok (.iaload, 1) := by decide +kernel
theorem dL_law_1279 : decode cL_law 1279 = .ok (.aload_n 0, 1) := by decide +kernel
theorem dL_law_1280 : decode cL_law 1280 = .ok (.iload_n 3, 1) := by decide +kernel
theorem dL_law_1281 : decode cL_law 1281 = .ok (.iconst 3, 1) := by decide +kernel
theorem dL_law_1282 : decode cL_law 1282 = .ok (.iadd, 1) := by decide +kernel
theorem dL_law_1283 : decode cL_law 1283 = .ok (.iaload, 1) := by decide +kernel
theorem dL_law_1284 : decode cL_law 1284 = .ok (.aload_n 0, 1) := by decide +kernel
theorem dL_law_1285 : decode cL_law 1285 = .ok (.iload_n 3, 1) := by decide +kernel
theorem dL_law_1286 : decode cL_law 1286 = .ok (.iconst 4, 1) := by decide +kernel
theorem dL_law_1287 : decode cL_law 1287 = .ok (.iadd, 1) := by decide +kernel
theorem dL_law_1288 : decode cL_law 1288 = .ok (.iaload, 1) := by decide +kernel
theorem dL_law_1289 : decode cL_law 1289 = .ok (.aload_n 0, 1) := by decide +kernel
theorem dL_law_1290 : decode cL_law 1290 = .ok (.iload_n 3, 1) := by decide +kernel
theorem dL_law_1291 : decode cL_law 1291 = .ok (.iconst 5, 1) := by decide +kernel
theorem dL_law_1292 : decode cL_law 1292 = .ok (.iadd, 1) := by decide +kernel
theorem dL_law_1293 : decode cL_law 1293 = .ok (.iaload, 1) := by decide +kernel
theorem dL_law_1294 : decode cL_law 1294 = .ok (.invokevirtual 154, 3) := by decide +kernel
theorem dL_law_1297 : decode cL_law 1297 = .ok (.if_icmp .eq 242, 3) := by decide +kernel
theorem dL_law_1300 : decode cL_law 1300 = .ok (.iconst 0, 1) := by decide +kernel
theorem dL_law_1301 : decode cL_law 1301 = .ok (.ireturn, 1) := by decide +kernel
theorem dL_law_1302 : decode cL_law 1302 = .ok (.aload_n 1, 1) := by decide +kernel
theorem dL_law_1303 : decode cL_law 1303 = .ok (.aload_n 0, 1) := by decide +kernel
theorem dL_law_1304 : decode cL_law 1304 = .ok (.iload_n 3, 1) := by decide +kernel
theorem dL_law_1305 : decode cL_law 1305 = .ok (.iconst 1, 1) := by decide +kernel
theorem dL_law_1306 : decode cL_law 1306 = .ok (.iadd, 1) := by decide +kernel
theorem dL_law_1307 : decode cL_law 1307 = .ok (.iaload, 1) := by decide +kernel
theorem dL_law_1308 : decode cL_law 1308 = .ok (.aload_n 0, 1) := by decide +kernel
theorem dL_law_1309 : decode cL_law 1309 = .ok (.iload_n 3, 1) := by decide +kernel
theorem dL_law_1310 : decode cL_law 1310 = .ok (.iconst 2, 1) := by decide +kernel
theorem dL_law_1311 : decode cL_law 1311 = .ok (.iadd, 1) := by decide +kernel
theorem dL_law_1312 : decode cL_law 1312 = .ok (.iaload, 1) := by decide +kernel
theorem dL_law_1313 : decode cL_law 1313 = .ok (.aload_n 0, 1) := by decide +kernel
theorem dL_law_1314 : decode cL_law 1314 = .ok (.iload_n 3, 1) := by decide +kernel
theorem dL_law_1315 : decode cL_law 1315 = .ok (.iconst 3, 1) := by decide +kernel
theorem dL_law_1316 : decode cL_law 1316 = .ok (.iadd, 1) := by decide +kernel
theorem dL_law_1317 : decode cL_law 1317 = .ok (.iaload, 1) := by decide +kernel
theorem dL_law_1318 : decode cL_law 1318 = .ok (.invokevirtual 155, 3) := by decide +kernel
theorem dL_law_1321 : decode cL_law 1321 = .ok (.aload_n 2, 1) := by decide +kernel
theorem dL_law_1322 : decode cL_law 1322 = .ok (.aload_n 0, 1) := by decide +kernel
theorem dL_law_1323 : decode cL_law 1323 = .ok (.iload_n 3, 1) := by decide +kernel
theorem dL_law_1324 : decode cL_law 1324 = .ok (.iconst 1, 1) := by decide +kernel
theorem dL_law_1325 : decode cL_law 1325 = .ok (.iadd, 1) := by decide +kernel
theorem dL_law_1326 : decode cL_law 1326 = .ok (.iaload, 1) := by decide +kernel
theorem dL_law_1327 : decode cL_law 1327 = .ok (.aload_n 0, 1) := by decide +kernel
theorem dL_law_1328 : decode cL_law 1328 = .ok (.iload_n 3, 1) := by decide +kernel
theorem dL_law_1329 : decode cL_law 1329 = .ok (.iconst 2, 1) := by decide +kernel
theorem dL_law_1330 : decode cL_law 1330 = .ok (.iadd, 1) := by decide +kernel
theorem dL_law_1331 : decode cL_law 1331 = .ok (.iaload, 1) := by decide +kernel
theorem dL_law_1332 : decode cL_law 1332 = .ok (.aload_n 0, 1) := by decide +kernel
theorem dL_law_1333 : decode cL_law 1333 = .ok (.iload_n 3, 1) := by decide +kernel
theorem dL_law_1334 : decode cL_law 1334 = .ok (.iconst 3, 1) := by decide +kernel
theorem dL_law_1335 : decode cL_law 1335 = .ok (.iadd, 1) := by decide +kernel
theorem dL_law_1336 : decode cL_law 1336 = .ok (.iaload, 1) := by decide +kernel
theorem dL_law_1337 : decode cL_law 1337 = .ok (.invokevirtual 158, 3) := by decide +kernel
theorem dL_law_1340 : decode cL_law 1340 = .ok (.if_icmp .eq 199, 3) := by decide +kernel
theorem dL_law_1343 : decode cL_law 1343 = .ok (.iconst 0, 1) := by decide +kernel
theorem dL_law_1344 : decode cL_law 1344 = .ok (.ireturn, 1) := by decide +kernel
theorem dL_law_1345 : decode cL_law 1345 = .ok (.aload_n 1, 1) := by decide +kernel
theorem dL_law_1346 : decode cL_law 1346 = .ok (.aload_n 0, 1) := by decide +kernel
theorem dL_law_1347 : decode cL_law 1347 = .ok (.iload_n 3, 1) := by decide +kernel
theorem dL_law_1348 : decode cL_law 1348 = .ok (.iconst 1, 1) := by decide +kernel
theorem dL_law_1349 : decode cL_law 1349 = .ok (.iadd, 1) := by decide +kernel
theorem dL_law_1350 : decode cL_law 1350 = .ok (.iaload, 1) := by decide +kernel
theorem dL_law_1351 : decode cL_law 1351 = .ok (.aload_n 0, 1) := by decide +kernel
theorem dL_law_1352 : decode cL_law 1352 = .ok (.iload_n 3, 1) := by decide +kernel
theorem dL_law_1353 : decode cL_law 1353 = .ok (.iconst 2, 1) := by decide +kernel
theorem dL_law_1354 : decode cL_law 1354 = .ok (.iadd, 1) := by decide +kernel
theorem dL_law_1355 : decode cL_law 1355 = .ok (.iaload, 1) := by decide +kernel
theorem dL_law_1356 : decode cL_law 1356 = .ok (.invokevirtual 159, 3) := by decide +kernel
theorem dL_law_1359 : decode cL_law 1359 = .ok (.aload_n 2, 1) := by decide +kernel
theorem dL_law_1360 : decode cL_law 1360 = .ok (.aload_n 0, 1) := by decide +kernel
theorem dL_law_1361 : decode cL_law 1361 = .ok (.iload_n 3, 1) := by decide +kernel
theorem dL_law_1362 : decode cL_law 1362 = .ok (.iconst 1, 1) := by decide +kernel
theorem dL_law_1363 : decode cL_law 1363 = .ok (.iadd, 1) := by decide +kernel
theorem dL_law_1364 : decode cL_law 1364 = .ok (.iaload, 1) := by decide +kernel
theorem dL_law_1365 : decode cL_law 1365 = .ok (.aload_n 0, 1) := by decide +kernel
theorem dL_law_1366 : decode cL_law 1366 = .ok (.iload_n 3, 1) := by decide +kernel
theorem dL_law_1367 : decode cL_law 1367 = .ok (.iconst 2, 1) := by decide +kernel
theorem dL_law_1368 : decode cL_law 1368 = .ok (.iadd, 1) := by decide +kernel
theorem dL_law_1369 : decode cL_law 1369 = .ok (.iaload, 1) := by decide +kernel
theorem dL_law_1370 : decode cL_law 1370 = .ok (.invokevirtual 162, 3) := by decide +kernel
theorem dL_law_1373 : decode cL_law 1373 = .ok (.if_icmp .eq 166, 3) := by decide +kernel
theorem dL_law_1376 : decode cL_law 1376 = .ok (.iconst 0, 1) := by decide +kernel
theorem dL_law_1377 : decode cL_law 1377 = .ok (.ireturn, 1) := by decide +kernel
theorem dL_law_1378 : decode cL_law 1378 = .ok (.aload_n 1, 1) := by decide +kernel
theorem dL_law_1379 : decode cL_law 1379 = .ok (.aload_n 0, 1) := by decide +kernel
theorem dL_law_1380 : decode cL_law 1380 = .ok (.iload_n 3, 1) := by decide +kernel
theorem dL_law_1381 : decode cL_law 1381 = .ok (.iconst 1, 1) := by decide +kernel
theorem dL_law_1382 : decode cL_law 1382 = .ok (.iadd, 1) := by decide +kernel
theorem dL_law_1383 : decode cL_law 1383 = .ok (.iaload, 1) := by decide +kernel
theorem dL_law_1384 : decode cL_law 1384 = .ok (.aload_n 0, 1) := by decide +kernel
theorem dL_law_1385 : decode cL_law 1385 = .ok (.iload_n 3, 1) := by decide +kernel
theorem dL_law_1386 : decode cL_law 1386 = .ok (.iconst 2, 1) := by decide +kernel
theorem dL_law_1387 : decode cL_law 1387 = .ok (.iadd, 1) := by decide +kernel
theorem dL_law_1388 : decode cL_law 1388 = .ok (.iaload, 1) := by decide +kernel
theorem dL_law_1389 : decode cL_law 1389 = .ok (.invokevirtual 163, 3) := by decide +kernel
theorem dL_law_1392 : decode cL_law 1392 = .ok (.aload_n 2, 1) := by decide +kernel
theorem dL_law_1393 : decode cL_law 1393 = .ok (.aload_n 0, 1) := by decide +kernel
theorem dL_law_1394 : decode cL_law 1394 = .ok (.iload_n 3, 1) := by decide +kernel
theorem dL_law_1395 : decode cL_law 1395 = .ok (.iconst 1, 1) := by decide +kernel
theorem dL_law_1396 : decode cL_law 1396 = .ok (.iadd, 1) := by decide +kernel
theorem dL_law_1397 : decode cL_law 1397 = .ok (.iaload, 1) := by decide +kernel
theorem dL_law_1398 : decode cL_law 1398 = .ok (.aload_n 0, 1) := by decide +kernel
theorem dL_law_1399 : decode cL_law 1399 = .ok (.iload_n 3, 1) := by decide +kernel
theorem dL_law_1400 : decode cL_law 1400 = .ok (.iconst 2, 1) := by decide +kernel
theorem dL_law_1401 : decode cL_law 1401 = .ok (.iadd, 1) := by decide +kernel
theorem dL_law_1402 : decode cL_law 1402 = .ok (.iaload, 1) := by decide +kernel
theorem dL_law_1403 : decode cL_law 1403 = .ok (.invokevirtual 166, 3) := by decide +kernel
theorem dL_law_1406 : decode cL_law 1406 = .ok (.if_icmp .eq 133, 3) := by decide +kernel
theorem dL_law_1409 : decode cL_law 1409 = .ok (.iconst 0, 1) := by decide +kernel
theorem dL_law_1410 : decode cL_law 1410 = .ok (.ireturn, 1) := by decide +kernel
theorem dL_law_1411 : decode cL_law 1411 = .ok (.aload_n 1, 1) := by decide +kernel
theorem dL_law_1412 : decode cL_law 1412 = .ok (.aload_n 0, 1) := by decide +kernel
theorem dL_law_1413 : decode cL_law 1413 = .ok (.iload_n 3, 1) := by decide +kernel
theorem dL_law_1414 : decode cL_law 1414 = .ok (.iconst 1, 1) := by decide +kernel
theorem dL_law_1415 : decode cL_law 1415 = .ok (.iadd, 1) := by decide +kernel
theorem dL_law_1416 : decode cL_law 1416 = .ok (.iaload, 1) := by decide +kernel
theorem dL_law_1417 : decode cL_law 1417 = .ok (.aload_n 0, 1) := by decide +kernel
theorem dL_law_1418 : decode cL_law 1418 = .ok (.iload_n 3, 1) := by decide +kernel
theorem dL_law_1419 : decode cL_law 1419 = .ok (.iconst 2, 1) := by decide +kernel
theorem dL_law_1420 : decode cL_law 1420 = .ok (.iadd, 1) := by decide +kernel
theorem dL_law_1421 : decode cL_law 1421 = .ok (.iaload, 1) := by decide +kernel
theorem dL_law_1422 : decode cL_law 1422 = .ok (.invokevirtual 167, 3) := by decide +kernel
theorem dL_law_1425 : decode cL_law 1425 = .ok (.aload_n 2, 1) := by decide +kernel
theorem dL_law_1426 : decode cL_law 1426 = .ok (.aload_n 0, 1) := by decide +kernel
theorem dL_law_1427 : decode cL_law 1427 = .ok (.iload_n 3, 1) := by decide +kernel
theorem dL_law_1428 : decode cL_law 1428 = .ok (.iconst 1, 1) := by decide +kernel
theorem dL_law_1429 : decode cL_law 1429 = .ok (.iadd, 1) := by decide +kernel
theorem dL_law_1430 : decode cL_law 1430 = .ok (.iaload, 1) := by decide +kernel
theorem dL_law_1431 : decode cL_law 1431 = .ok (.aload_n 0, 1) := by decide +kernel
theorem dL_law_1432 : decode cL_law 1432 = .ok (.iload_n 3, 1) := by decide +kernel
theorem dL_law_1433 : decode cL_law 1433 = .ok (.iconst 2, 1) := by decide +kernel
theorem dL_law_1434 : decode cL_law 1434 = .ok (.iadd, 1) := by decide +kernel
theorem dL_law_1435 : decode cL_law 1435 = .ok (.iaload, 1) := by decide +kernel
theorem dL_law_1436 : decode cL_law 1436 = .ok (.invokevirtual 170, 3) := by decide +kernel
theorem dL_law_1439 : decode cL_law 1439 = .ok (.if_icmp .eq 100, 3) := by decide +kernel
theorem dL_law_1442 : decode cL_law 1442 = .ok (.iconst 0, 1) := by decide +kernel
theorem dL_law_1443 : decode cL_law 1443 = .ok (.ireturn, 1) := by decide +kernel
theorem dL_law_1444 : decode cL_law 1444 = .ok (.aload_n 1, 1) := by decide +kernel
theorem dL_law_1445 : decode cL_law 1445 = .ok (.aload_n 0, 1) := by decide +kernel
theorem dL_law_1446 : decode cL_law 1446 = .ok (.iload_n 3, 1) := by decide +kernel
theorem dL_law_1447 : decode cL_law 1447 = .ok (.iconst 1, 1) := by decide +kernel
theorem dL_law_1448 : decode cL_law 1448 = .ok (.iadd, 1) := by decide +kernel
theorem dL_law_1449 : decode cL_law 1449 = .ok (.iaload, 1) := by decide +kernel
theorem dL_law_1450 : decode cL_law 1450 = .ok (.invokevirtual 171, 3) := by decide +kernel
theorem dL_law_1453 : decode cL_law 1453 = .ok (.aload_n 2, 1) := by decide +kernel
theorem dL_law_1454 : decode cL_law 1454 = .ok (.aload_n 0, 1) := by decide +kernel
theorem dL_law_1455 : decode cL_law 1455 = .ok (.iload_n 3, 1) := by decide +kernel
theorem dL_law_1456 : decode cL_law 1456 = .ok (.iconst 1, 1) := by decide +kernel
theorem dL_law_1457 : decode cL_law 1457 = .ok (.iadd, 1) := by decide +kernel
theorem dL_law_1458 : decode cL_law 1458 = .ok (.iaload, 1) := by decide +kernel
theorem dL_law_1459 : decode cL_law 1459 = .ok (.invokevirtual 174, 3) := by decide +kernel
theorem dL_law_1462 : decode cL_law 1462 = .ok (.if_icmp .eq 77, 3) := by decide +kernel
theorem dL_law_1465 : decode cL_law 1465 = .ok (.iconst 0, 1) := by decide +kernel
theorem dL_law_1466 : decode cL_law 1466 = .ok (.ireturn, 1) := by decide +kernel
theorem dL_law_1467 : decode cL_law 1467 = .ok (.aload_n 1, 1) := by decide +kernel
theorem dL_law_1468 : decode cL_law 1468 = .ok (.aload_n 0, 1) := by decide +kernel
theorem dL_law_1469 : decode cL_law 1469 = .ok (.iload_n 3, 1) := by decide +kernel
theorem dL_law_1470 : decode cL_law 1470 = .ok (.iconst 1, 1) := by decide +kernel
theorem dL_law_1471 : decode cL_law 1471 = .ok (.iadd, 1) := by decide +kernel
theorem dL_law_1472 : decode cL_law 1472 = .ok (.iaload, 1) := by decide +kernel
theorem dL_law_1473 : decode cL_law 1473 = .ok (.invokevirtual 175, 3) := by decide +kernel
theorem dL_law_1476 : decode cL_law 1476 = .ok (.aload_n 2, 1) := by decide +kernel
theorem dL_law_1477 : decode cL_law 1477 = .ok (.aload_n 0, 1) := by decide +kernel
theorem dL_law_1478 : decode cL_law 1478 = .ok (.iload_n 3, 1) := by decide +kernel
theorem dL_law_1479 : decode cL_law 1479 = .ok (.iconst 1, 1) := by decide +kernel
theorem dL_law_1480 : decode cL_law 1480 = .ok (.iadd, 1) := by decide +kernel
theorem dL_law_1481 : decode cL_law 1481 = .ok (.iaload, 1) := by decide +kernel
theorem dL_law_1482 : decode cL_law 1482 = .ok (.invokevirtual 178, 3) := by decide +kernel
theorem dL_law_1485 : decode cL_law 1485 = .ok (.if_icmp .eq 54, 3) := by decide +kernel
theorem dL_law_1488 : decode cL_law 1488 = .ok (.iconst 0, 1) := by decide +kernel
theorem dL_law_1489 : decode cL_law 1489 = .ok (.ireturn, 1) := by decide +kernel
theorem dL_law_1490 : decode cL_law 1490 = .ok (.aload_n 1, 1) := by decide +kernel
theorem dL_law_1491 : decode cL_law 1491 = .ok (.invokevirtual 179, 3) := by decide +kernel
theorem dL_law_1494 : decode cL_law 1494 = .ok (.aload_n 2, 1) := by decide +kernel
theorem dL_law_1495 : decode cL_law 1495 = .ok (.invokevirtual 182, 3) := by decide +kernel
theorem dL_law_1498 : decode cL_law 1498 = .ok (.if_icmp .eq 41, 3) := by decide +kernel
theorem dL_law_1501 : decode cL_law 1501 = .ok (.iconst 0, 1) := by decide +kernel
theorem dL_law_1502 : decode cL_law 1502 = .ok (.ireturn, 1) := by decide +kernel
theorem dL_law_1503 : decode cL_law 1503 = .ok (.aload_n 1, 1) := by decide +kernel
theorem dL_law_1504 : decode cL_law 1504 = .ok (.invokevirtual 183, 3) := by decide +kernel
theorem dL_law_1507 : decode cL_law 1507 = .ok (.aload_n 2, 1) := by decide +kernel
theorem dL_law_1508 : decode cL_law 1508 = .ok (.invokevirtual 186, 3) := by decide +kernel
theorem dL_law_1511 : decode cL_law 1511 = .ok (.if_icmp .eq 28, 3) := by decide +kernel
theorem dL_law_1514 : decode cL_law 1514 = .ok (.iconst 0, 1) := by decide +kernel
theorem dL_law_1515 : decode cL_law 1515 = .ok (.ireturn, 1) := by decide +kernel
theorem dL_law_1516 : decode cL_law 1516 = .ok (.aload_n 1, 1) := by decide +kernel
theorem dL_law_1517 : decode cL_law 1517 = .ok (.aload_n 0, 1) := by decide +kernel
theorem dL_law_1518 : decode cL_law 1518 = .ok (.iload_n 3, 1) := by decide +kernel
theorem dL_law_1519 : decode cL_law 1519 = .ok (.iconst 1, 1) := by decide +kernel
theorem dL_law_1520 : decode cL_law 1520 = .ok (.iadd, 1) := by decide +kernel
theorem dL_law_1521 : decode cL_law 1521 = .ok (.iaload, 1) := by decide +kernel
theorem dL_law_1522 : decode cL_law 1522 = .ok (.invokevirtual 187, 3) := by decide +kernel
theorem dL_law_1525 : decode cL_law 1525 = .ok (.aload_n 2, 1) := by decide +kernel
theorem dL_law_1526 : decode cL_law 1526 = .ok (.aload_n 0, 1) := by decide +kernel
theorem dL_law_1527 : decode cL_law 1527 = .ok (.iload_n 3, 1) := by decide +kernel
theorem dL_law_1528 : decode cL_law 1528 = .ok (.iconst 1, 1) := by decide +kernel
theorem dL_law_1529 : decode cL_law 1529 = .ok (.iadd, 1) := by decide +kernel
theorem dL_law_1530 : decode cL_law 1530 = .ok (.iaload, 1) := by decide +kernel
theorem dL_law_1531 : decode cL_law 1531 = .ok (.invokevirtual 190, 3) := by decide +kernel
theorem dL_law_1534 : decode cL_law 1534 = .ok (.if_icmp .eq 5, 3) := by decide +kernel
theorem dL_law_1537 : decode cL_law 1537 = .ok (.iconst 0, 1) := by decide +kernel
theorem dL_law_1538 : decode cL_law 1538 = .ok (.ireturn, 1) := by decide +kernel
theorem dL_law_1539 : decode cL_law 1539 = .ok (.iinc 3 6, 3) := by decide +kernel
theorem dL_law_1542 : decode cL_law 1542 = .ok (.goto (-1524), 3) := by decide +kernel
theorem dL_law_1545 : decode cL_law 1545 = .ok (.iconst 1, 1) := by decide +kernel
theorem dL_law_1546 : decode cL_law 1546 = .ok (.ireturn, 1) := by decide +kernel
end
section
theorem x_test : (1 : Nat) = 1 := rfl
end
