section
-- ===== PART A: goes FIRST, ahead of the names: the tables' words, and 'selects' of the private methods out of them =====
/-- a private method of a class that the tables say can be made, by its rows of tables_1 -/
def lw_okq (q : MethodName × Nat) : Prop := (q.1.cls ≠ "java/lang/invoke/MethodHandle" ∧ q.1.cls ≠ "java/lang/invoke/VarHandle") ∧ Cond.instantiable q.1.cls q.2 ∈ tables_1 ∧ Cond.privateMethod q.1 ∈ tables_1 ∧ Cond.instanceMethod q.1 ∈ tables_1
theorem lw_p0 : lw_okq (⟨"DilutedDesk$Reader", "step", "()V"⟩, 7) := ⟨⟨by decide +kernel, by decide +kernel⟩, List.mem_of_getElem? (i := 43) (by decide +kernel), List.mem_of_getElem? (i := 253) (by decide +kernel), List.mem_of_getElem? (i := 254) (by decide +kernel)⟩
theorem lw_p1 : lw_okq (⟨"DilutedDesk$Reader", "stepLettersAndDigits", "()V"⟩, 7) := ⟨⟨by decide +kernel, by decide +kernel⟩, List.mem_of_getElem? (i := 43) (by decide +kernel), List.mem_of_getElem? (i := 260) (by decide +kernel), List.mem_of_getElem? (i := 261) (by decide +kernel)⟩
theorem lw_p2 : lw_okq (⟨"DilutedDesk$Reader", "atEnd", "(I)I"⟩, 7) := ⟨⟨by decide +kernel, by decide +kernel⟩, List.mem_of_getElem? (i := 43) (by decide +kernel), List.mem_of_getElem? (i := 264) (by decide +kernel), List.mem_of_getElem? (i := 265) (by decide +kernel)⟩
theorem lw_p3 : lw_okq (⟨"DilutedDesk$Reader", "fail", "(I)Z"⟩, 7) := ⟨⟨by decide +kernel, by decide +kernel⟩, List.mem_of_getElem? (i := 43) (by decide +kernel), List.mem_of_getElem? (i := 268) (by decide +kernel), List.mem_of_getElem? (i := 269) (by decide +kernel)⟩
theorem lw_p4 : lw_okq (⟨"DilutedDesk$Reader", "readShares", "(LDilutedDesk$Year;)Z"⟩, 7) := ⟨⟨by decide +kernel, by decide +kernel⟩, List.mem_of_getElem? (i := 43) (by decide +kernel), List.mem_of_getElem? (i := 272) (by decide +kernel), List.mem_of_getElem? (i := 273) (by decide +kernel)⟩
theorem lw_p5 : lw_okq (⟨"DilutedDesk$Reader", "isWord", "(Ljava/lang/String;)Z"⟩, 7) := ⟨⟨by decide +kernel, by decide +kernel⟩, List.mem_of_getElem? (i := 43) (by decide +kernel), List.mem_of_getElem? (i := 277) (by decide +kernel), List.mem_of_getElem? (i := 278) (by decide +kernel)⟩
theorem lw_p6 : lw_okq (⟨"DilutedDesk$Reader", "number", "(II)Z"⟩, 7) := ⟨⟨by decide +kernel, by decide +kernel⟩, List.mem_of_getElem? (i := 43) (by decide +kernel), List.mem_of_getElem? (i := 330) (by decide +kernel), List.mem_of_getElem? (i := 331) (by decide +kernel)⟩
theorem lw_p7 : lw_okq (⟨"DilutedDesk$Reader", "semicolon", "()Z"⟩, 7) := ⟨⟨by decide +kernel, by decide +kernel⟩, List.mem_of_getElem? (i := 43) (by decide +kernel), List.mem_of_getElem? (i := 334) (by decide +kernel), List.mem_of_getElem? (i := 335) (by decide +kernel)⟩
theorem lw_p8 : lw_okq (⟨"DilutedDesk$Reader", "readQuarter", "(LDilutedDesk$Year;I)Z"⟩, 7) := ⟨⟨by decide +kernel, by decide +kernel⟩, List.mem_of_getElem? (i := 43) (by decide +kernel), List.mem_of_getElem? (i := 338) (by decide +kernel), List.mem_of_getElem? (i := 339) (by decide +kernel)⟩
theorem lw_p9 : lw_okq (⟨"DilutedDesk$Reader", "word", "(Ljava/lang/String;)Z"⟩, 7) := ⟨⟨by decide +kernel, by decide +kernel⟩, List.mem_of_getElem? (i := 43) (by decide +kernel), List.mem_of_getElem? (i := 343) (by decide +kernel), List.mem_of_getElem? (i := 344) (by decide +kernel)⟩
theorem lw_p10 : lw_okq (⟨"DilutedDesk$Reader", "readOthers", "(LDilutedDesk$Year;)I"⟩, 7) := ⟨⟨by decide +kernel, by decide +kernel⟩, List.mem_of_getElem? (i := 43) (by decide +kernel), List.mem_of_getElem? (i := 350) (by decide +kernel), List.mem_of_getElem? (i := 351) (by decide +kernel)⟩
theorem lw_p11 : lw_okq (⟨"DilutedDesk$Reader", "readOther", "(LDilutedDesk$Year;)Z"⟩, 7) := ⟨⟨by decide +kernel, by decide +kernel⟩, List.mem_of_getElem? (i := 43) (by decide +kernel), List.mem_of_getElem? (i := 354) (by decide +kernel), List.mem_of_getElem? (i := 355) (by decide +kernel)⟩
theorem lw_p12 : lw_okq (⟨"DilutedDesk$Reader", "readEvent", "(LDilutedDesk$Year;I)Z"⟩, 7) := ⟨⟨by decide +kernel, by decide +kernel⟩, List.mem_of_getElem? (i := 43) (by decide +kernel), List.mem_of_getElem? (i := 359) (by decide +kernel), List.mem_of_getElem? (i := 360) (by decide +kernel)⟩
theorem lw_p13 : lw_okq (⟨"DilutedDesk$Reader", "readInstrument", "(LDilutedDesk$Year;I)Z"⟩, 7) := ⟨⟨by decide +kernel, by decide +kernel⟩, List.mem_of_getElem? (i := 43) (by decide +kernel), List.mem_of_getElem? (i := 403) (by decide +kernel), List.mem_of_getElem? (i := 404) (by decide +kernel)⟩
theorem lw_p14 : lw_okq (⟨"DilutedDesk$History", "forgetOldest", "()V"⟩, 4) := ⟨⟨by decide +kernel, by decide +kernel⟩, List.mem_of_getElem? (i := 122) (by decide +kernel), List.mem_of_getElem? (i := 479) (by decide +kernel), List.mem_of_getElem? (i := 480) (by decide +kernel)⟩
theorem lw_p15 : lw_okq (⟨"java/lang/Throwable", "fillInStackTrace", "(I)Ljava/lang/Throwable;"⟩, 6) := ⟨⟨by decide +kernel, by decide +kernel⟩, List.mem_of_getElem? (i := 567) (by decide +kernel), List.mem_of_getElem? (i := 565) (by decide +kernel), List.mem_of_getElem? (i := 566) (by decide +kernel)⟩
def lw_privs_1 : List (MethodName × Nat) := [(⟨"DilutedDesk$Reader", "step", "()V"⟩, 7), (⟨"DilutedDesk$Reader", "stepLettersAndDigits", "()V"⟩, 7), (⟨"DilutedDesk$Reader", "atEnd", "(I)I"⟩, 7), (⟨"DilutedDesk$Reader", "fail", "(I)Z"⟩, 7), (⟨"DilutedDesk$Reader", "readShares", "(LDilutedDesk$Year;)Z"⟩, 7), (⟨"DilutedDesk$Reader", "isWord", "(Ljava/lang/String;)Z"⟩, 7), (⟨"DilutedDesk$Reader", "number", "(II)Z"⟩, 7), (⟨"DilutedDesk$Reader", "semicolon", "()Z"⟩, 7), (⟨"DilutedDesk$Reader", "readQuarter", "(LDilutedDesk$Year;I)Z"⟩, 7), (⟨"DilutedDesk$Reader", "word", "(Ljava/lang/String;)Z"⟩, 7), (⟨"DilutedDesk$Reader", "readOthers", "(LDilutedDesk$Year;)I"⟩, 7), (⟨"DilutedDesk$Reader", "readOther", "(LDilutedDesk$Year;)Z"⟩, 7), (⟨"DilutedDesk$Reader", "readEvent", "(LDilutedDesk$Year;I)Z"⟩, 7), (⟨"DilutedDesk$Reader", "readInstrument", "(LDilutedDesk$Year;I)Z"⟩, 7), (⟨"DilutedDesk$History", "forgetOldest", "()V"⟩, 4), (⟨"java/lang/Throwable", "fillInStackTrace", "(I)Ljava/lang/Throwable;"⟩, 6)]
theorem lw_r1 : ∀ q ∈ lw_privs_1, lw_okq q := List.forall_mem_cons.mpr ⟨lw_p0, List.forall_mem_cons.mpr ⟨lw_p1, List.forall_mem_cons.mpr ⟨lw_p2, List.forall_mem_cons.mpr ⟨lw_p3, List.forall_mem_cons.mpr ⟨lw_p4, List.forall_mem_cons.mpr ⟨lw_p5, List.forall_mem_cons.mpr ⟨lw_p6, List.forall_mem_cons.mpr ⟨lw_p7, List.forall_mem_cons.mpr ⟨lw_p8, List.forall_mem_cons.mpr ⟨lw_p9, List.forall_mem_cons.mpr ⟨lw_p10, List.forall_mem_cons.mpr ⟨lw_p11, List.forall_mem_cons.mpr ⟨lw_p12, List.forall_mem_cons.mpr ⟨lw_p13, List.forall_mem_cons.mpr ⟨lw_p14, List.forall_mem_cons.mpr ⟨lw_p15, fun _ h => absurd h List.not_mem_nil⟩⟩⟩⟩⟩⟩⟩⟩⟩⟩⟩⟩⟩⟩⟩⟩
theorem lw_p16 : lw_okq (⟨"DilutedDesk$Year", "daysCounted", "(III)I"⟩, 12) := ⟨⟨by decide +kernel, by decide +kernel⟩, List.mem_of_getElem? (i := 142) (by decide +kernel), List.mem_of_getElem? (i := 628) (by decide +kernel), List.mem_of_getElem? (i := 629) (by decide +kernel)⟩
theorem lw_p17 : lw_okq (⟨"DilutedDesk$Year", "addedByOption", "(II)J"⟩, 12) := ⟨⟨by decide +kernel, by decide +kernel⟩, List.mem_of_getElem? (i := 142) (by decide +kernel), List.mem_of_getElem? (i := 646) (by decide +kernel), List.mem_of_getElem? (i := 647) (by decide +kernel)⟩
theorem lw_p18 : lw_okq (⟨"DilutedDesk$Year", "scaledPrice", "(II)I"⟩, 12) := ⟨⟨by decide +kernel, by decide +kernel⟩, List.mem_of_getElem? (i := 142) (by decide +kernel), List.mem_of_getElem? (i := 650) (by decide +kernel), List.mem_of_getElem? (i := 651) (by decide +kernel)⟩
theorem lw_p19 : lw_okq (⟨"DilutedDesk$Dilution", "placeByHarm", "(I)V"⟩, 12) := ⟨⟨by decide +kernel, by decide +kernel⟩, List.mem_of_getElem? (i := 73) (by decide +kernel), List.mem_of_getElem? (i := 675) (by decide +kernel), List.mem_of_getElem? (i := 676) (by decide +kernel)⟩
theorem lw_p20 : lw_okq (⟨"DilutedDesk$Dilution", "harmsLess", "(II)Z"⟩, 12) := ⟨⟨by decide +kernel, by decide +kernel⟩, List.mem_of_getElem? (i := 73) (by decide +kernel), List.mem_of_getElem? (i := 679) (by decide +kernel), List.mem_of_getElem? (i := 680) (by decide +kernel)⟩
theorem lw_p21 : lw_okq (⟨"DilutedDesk$Dilution", "takeIn", "()V"⟩, 12) := ⟨⟨by decide +kernel, by decide +kernel⟩, List.mem_of_getElem? (i := 73) (by decide +kernel), List.mem_of_getElem? (i := 688) (by decide +kernel), List.mem_of_getElem? (i := 689) (by decide +kernel)⟩
theorem lw_p22 : lw_okq (⟨"DilutedDesk", "dilutedLeavingOut", "(III)I"⟩, 7) := ⟨⟨by decide +kernel, by decide +kernel⟩, List.mem_of_getElem? (i := 18) (by decide +kernel), List.mem_of_getElem? (i := 719) (by decide +kernel), List.mem_of_getElem? (i := 720) (by decide +kernel)⟩
theorem lw_p23 : lw_okq (⟨"DilutedDesk", "leastProfitThatTakesIn", "(IIII)I"⟩, 7) := ⟨⟨by decide +kernel, by decide +kernel⟩, List.mem_of_getElem? (i := 18) (by decide +kernel), List.mem_of_getElem? (i := 748) (by decide +kernel), List.mem_of_getElem? (i := 749) (by decide +kernel)⟩
theorem lw_p24 : lw_okq (⟨"DilutedDeskModel", "lays", "(I)V"⟩, 23) := ⟨⟨by decide +kernel, by decide +kernel⟩, List.mem_of_getElem? (i := 773) (by decide +kernel), List.mem_of_getElem? (i := 771) (by decide +kernel), List.mem_of_getElem? (i := 772) (by decide +kernel)⟩
theorem lw_p25 : lw_okq (⟨"DilutedDeskModel", "go", "()V"⟩, 23) := ⟨⟨by decide +kernel, by decide +kernel⟩, List.mem_of_getElem? (i := 773) (by decide +kernel), List.mem_of_getElem? (i := 862) (by decide +kernel), List.mem_of_getElem? (i := 863) (by decide +kernel)⟩
theorem lw_p26 : lw_okq (⟨"DilutedDeskModel", "tapeAt", "(I)I"⟩, 23) := ⟨⟨by decide +kernel, by decide +kernel⟩, List.mem_of_getElem? (i := 773) (by decide +kernel), List.mem_of_getElem? (i := 872) (by decide +kernel), List.mem_of_getElem? (i := 873) (by decide +kernel)⟩
theorem lw_p27 : lw_okq (⟨"DilutedDeskModel", "readLine", "(I)Z"⟩, 23) := ⟨⟨by decide +kernel, by decide +kernel⟩, List.mem_of_getElem? (i := 773) (by decide +kernel), List.mem_of_getElem? (i := 881) (by decide +kernel), List.mem_of_getElem? (i := 882) (by decide +kernel)⟩
theorem lw_p28 : lw_okq (⟨"DilutedDeskModel", "readShares", "()Z"⟩, 23) := ⟨⟨by decide +kernel, by decide +kernel⟩, List.mem_of_getElem? (i := 773) (by decide +kernel), List.mem_of_getElem? (i := 885) (by decide +kernel), List.mem_of_getElem? (i := 886) (by decide +kernel)⟩
theorem lw_p29 : lw_okq (⟨"DilutedDeskModel", "isWord", "(J)Z"⟩, 23) := ⟨⟨by decide +kernel, by decide +kernel⟩, List.mem_of_getElem? (i := 773) (by decide +kernel), List.mem_of_getElem? (i := 896) (by decide +kernel), List.mem_of_getElem? (i := 897) (by decide +kernel)⟩
theorem lw_p30 : lw_okq (⟨"DilutedDeskModel", "bad", "(I)Z"⟩, 23) := ⟨⟨by decide +kernel, by decide +kernel⟩, List.mem_of_getElem? (i := 773) (by decide +kernel), List.mem_of_getElem? (i := 900) (by decide +kernel), List.mem_of_getElem? (i := 901) (by decide +kernel)⟩
theorem lw_p31 : lw_okq (⟨"DilutedDeskModel", "told", "(III)Z"⟩, 23) := ⟨⟨by decide +kernel, by decide +kernel⟩, List.mem_of_getElem? (i := 773) (by decide +kernel), List.mem_of_getElem? (i := 905) (by decide +kernel), List.mem_of_getElem? (i := 906) (by decide +kernel)⟩
def lw_privs_2 : List (MethodName × Nat) := [(⟨"DilutedDesk$Year", "daysCounted", "(III)I"⟩, 12), (⟨"DilutedDesk$Year", "addedByOption", "(II)J"⟩, 12), (⟨"DilutedDesk$Year", "scaledPrice", "(II)I"⟩, 12), (⟨"DilutedDesk$Dilution", "placeByHarm", "(I)V"⟩, 12), (⟨"DilutedDesk$Dilution", "harmsLess", "(II)Z"⟩, 12), (⟨"DilutedDesk$Dilution", "takeIn", "()V"⟩, 12), (⟨"DilutedDesk", "dilutedLeavingOut", "(III)I"⟩, 7), (⟨"DilutedDesk", "leastProfitThatTakesIn", "(IIII)I"⟩, 7), (⟨"DilutedDeskModel", "lays", "(I)V"⟩, 23), (⟨"DilutedDeskModel", "go", "()V"⟩, 23), (⟨"DilutedDeskModel", "tapeAt", "(I)I"⟩, 23), (⟨"DilutedDeskModel", "readLine", "(I)Z"⟩, 23), (⟨"DilutedDeskModel", "readShares", "()Z"⟩, 23), (⟨"DilutedDeskModel", "isWord", "(J)Z"⟩, 23), (⟨"DilutedDeskModel", "bad", "(I)Z"⟩, 23), (⟨"DilutedDeskModel", "told", "(III)Z"⟩, 23)]
theorem lw_r2 : ∀ q ∈ lw_privs_2, lw_okq q := List.forall_mem_cons.mpr ⟨lw_p16, List.forall_mem_cons.mpr ⟨lw_p17, List.forall_mem_cons.mpr ⟨lw_p18, List.forall_mem_cons.mpr ⟨lw_p19, List.forall_mem_cons.mpr ⟨lw_p20, List.forall_mem_cons.mpr ⟨lw_p21, List.forall_mem_cons.mpr ⟨lw_p22, List.forall_mem_cons.mpr ⟨lw_p23, List.forall_mem_cons.mpr ⟨lw_p24, List.forall_mem_cons.mpr ⟨lw_p25, List.forall_mem_cons.mpr ⟨lw_p26, List.forall_mem_cons.mpr ⟨lw_p27, List.forall_mem_cons.mpr ⟨lw_p28, List.forall_mem_cons.mpr ⟨lw_p29, List.forall_mem_cons.mpr ⟨lw_p30, List.forall_mem_cons.mpr ⟨lw_p31, fun _ h => absurd h List.not_mem_nil⟩⟩⟩⟩⟩⟩⟩⟩⟩⟩⟩⟩⟩⟩⟩⟩
theorem lw_p32 : lw_okq (⟨"DilutedDeskModel", "readQuarter", "(I)Z"⟩, 23) := ⟨⟨by decide +kernel, by decide +kernel⟩, List.mem_of_getElem? (i := 773) (by decide +kernel), List.mem_of_getElem? (i := 909) (by decide +kernel), List.mem_of_getElem? (i := 910) (by decide +kernel)⟩
theorem lw_p33 : lw_okq (⟨"DilutedDeskModel", "isProfit", "()Z"⟩, 23) := ⟨⟨by decide +kernel, by decide +kernel⟩, List.mem_of_getElem? (i := 773) (by decide +kernel), List.mem_of_getElem? (i := 914) (by decide +kernel), List.mem_of_getElem? (i := 915) (by decide +kernel)⟩
theorem lw_p34 : lw_okq (⟨"DilutedDeskModel", "isPrice", "()Z"⟩, 23) := ⟨⟨by decide +kernel, by decide +kernel⟩, List.mem_of_getElem? (i := 773) (by decide +kernel), List.mem_of_getElem? (i := 921) (by decide +kernel), List.mem_of_getElem? (i := 922) (by decide +kernel)⟩
theorem lw_p35 : lw_okq (⟨"DilutedDeskModel", "readOther", "()Z"⟩, 23) := ⟨⟨by decide +kernel, by decide +kernel⟩, List.mem_of_getElem? (i := 773) (by decide +kernel), List.mem_of_getElem? (i := 929) (by decide +kernel), List.mem_of_getElem? (i := 930) (by decide +kernel)⟩
theorem lw_p36 : lw_okq (⟨"DilutedDeskModel", "readEvent", "(I)Z"⟩, 23) := ⟨⟨by decide +kernel, by decide +kernel⟩, List.mem_of_getElem? (i := 773) (by decide +kernel), List.mem_of_getElem? (i := 933) (by decide +kernel), List.mem_of_getElem? (i := 934) (by decide +kernel)⟩
theorem lw_p37 : lw_okq (⟨"DilutedDeskModel", "readGrant", "(I)Z"⟩, 23) := ⟨⟨by decide +kernel, by decide +kernel⟩, List.mem_of_getElem? (i := 773) (by decide +kernel), List.mem_of_getElem? (i := 952) (by decide +kernel), List.mem_of_getElem? (i := 953) (by decide +kernel)⟩
theorem lw_p38 : lw_okq (⟨"DilutedDeskModel", "readEnd", "()Z"⟩, 23) := ⟨⟨by decide +kernel, by decide +kernel⟩, List.mem_of_getElem? (i := 773) (by decide +kernel), List.mem_of_getElem? (i := 956) (by decide +kernel), List.mem_of_getElem? (i := 957) (by decide +kernel)⟩
theorem lw_p39 : lw_okq (⟨"DilutedDeskModel", "restated", "(I)I"⟩, 23) := ⟨⟨by decide +kernel, by decide +kernel⟩, List.mem_of_getElem? (i := 773) (by decide +kernel), List.mem_of_getElem? (i := 975) (by decide +kernel), List.mem_of_getElem? (i := 976) (by decide +kernel)⟩
theorem lw_p40 : lw_okq (⟨"DilutedDeskModel", "scale", "(II)I"⟩, 23) := ⟨⟨by decide +kernel, by decide +kernel⟩, List.mem_of_getElem? (i := 773) (by decide +kernel), List.mem_of_getElem? (i := 979) (by decide +kernel), List.mem_of_getElem? (i := 980) (by decide +kernel)⟩
theorem lw_p41 : lw_okq (⟨"DilutedDeskModel", "refuse", "()I"⟩, 23) := ⟨⟨by decide +kernel, by decide +kernel⟩, List.mem_of_getElem? (i := 773) (by decide +kernel), List.mem_of_getElem? (i := 990) (by decide +kernel), List.mem_of_getElem? (i := 991) (by decide +kernel)⟩
theorem lw_p42 : lw_okq (⟨"DilutedDeskModel", "isInstrument", "(I)Z"⟩, 23) := ⟨⟨by decide +kernel, by decide +kernel⟩, List.mem_of_getElem? (i := 773) (by decide +kernel), List.mem_of_getElem? (i := 1002) (by decide +kernel), List.mem_of_getElem? (i := 1003) (by decide +kernel)⟩
theorem lw_p43 : lw_okq (⟨"DilutedDeskModel", "old", "(I)I"⟩, 23) := ⟨⟨by decide +kernel, by decide +kernel⟩, List.mem_of_getElem? (i := 773) (by decide +kernel), List.mem_of_getElem? (i := 1006) (by decide +kernel), List.mem_of_getElem? (i := 1007) (by decide +kernel)⟩
theorem lw_p44 : lw_okq (⟨"DilutedDeskModel", "its", "(II)I"⟩, 23) := ⟨⟨by decide +kernel, by decide +kernel⟩, List.mem_of_getElem? (i := 773) (by decide +kernel), List.mem_of_getElem? (i := 1010) (by decide +kernel), List.mem_of_getElem? (i := 1011) (by decide +kernel)⟩
theorem lw_p45 : lw_okq (⟨"DilutedDeskModel", "weightOf", "(II)J"⟩, 23) := ⟨⟨by decide +kernel, by decide +kernel⟩, List.mem_of_getElem? (i := 773) (by decide +kernel), List.mem_of_getElem? (i := 1021) (by decide +kernel), List.mem_of_getElem? (i := 1022) (by decide +kernel)⟩
theorem lw_p46 : lw_okq (⟨"DilutedDeskModel", "addsEarnings", "(III)J"⟩, 23) := ⟨⟨by decide +kernel, by decide +kernel⟩, List.mem_of_getElem? (i := 773) (by decide +kernel), List.mem_of_getElem? (i := 1029) (by decide +kernel), List.mem_of_getElem? (i := 1030) (by decide +kernel)⟩
theorem lw_p47 : lw_okq (⟨"DilutedDeskModel", "counts", "(III)I"⟩, 23) := ⟨⟨by decide +kernel, by decide +kernel⟩, List.mem_of_getElem? (i := 773) (by decide +kernel), List.mem_of_getElem? (i := 1033) (by decide +kernel), List.mem_of_getElem? (i := 1034) (by decide +kernel)⟩
def lw_privs_3 : List (MethodName × Nat) := [(⟨"DilutedDeskModel", "readQuarter", "(I)Z"⟩, 23), (⟨"DilutedDeskModel", "isProfit", "()Z"⟩, 23), (⟨"DilutedDeskModel", "isPrice", "()Z"⟩, 23), (⟨"DilutedDeskModel", "readOther", "()Z"⟩, 23), (⟨"DilutedDeskModel", "readEvent", "(I)Z"⟩, 23), (⟨"DilutedDeskModel", "readGrant", "(I)Z"⟩, 23), (⟨"DilutedDeskModel", "readEnd", "()Z"⟩, 23), (⟨"DilutedDeskModel", "restated", "(I)I"⟩, 23), (⟨"DilutedDeskModel", "scale", "(II)I"⟩, 23), (⟨"DilutedDeskModel", "refuse", "()I"⟩, 23), (⟨"DilutedDeskModel", "isInstrument", "(I)Z"⟩, 23), (⟨"DilutedDeskModel", "old", "(I)I"⟩, 23), (⟨"DilutedDeskModel", "its", "(II)I"⟩, 23), (⟨"DilutedDeskModel", "weightOf", "(II)J"⟩, 23), (⟨"DilutedDeskModel", "addsEarnings", "(III)J"⟩, 23), (⟨"DilutedDeskModel", "counts", "(III)I"⟩, 23)]
theorem lw_r3 : ∀ q ∈ lw_privs_3, lw_okq q := List.forall_mem_cons.mpr ⟨lw_p32, List.forall_mem_cons.mpr ⟨lw_p33, List.forall_mem_cons.mpr ⟨lw_p34, List.forall_mem_cons.mpr ⟨lw_p35, List.forall_mem_cons.mpr ⟨lw_p36, List.forall_mem_cons.mpr ⟨lw_p37, List.forall_mem_cons.mpr ⟨lw_p38, List.forall_mem_cons.mpr ⟨lw_p39, List.forall_mem_cons.mpr ⟨lw_p40, List.forall_mem_cons.mpr ⟨lw_p41, List.forall_mem_cons.mpr ⟨lw_p42, List.forall_mem_cons.mpr ⟨lw_p43, List.forall_mem_cons.mpr ⟨lw_p44, List.forall_mem_cons.mpr ⟨lw_p45, List.forall_mem_cons.mpr ⟨lw_p46, List.forall_mem_cons.mpr ⟨lw_p47, fun _ h => absurd h List.not_mem_nil⟩⟩⟩⟩⟩⟩⟩⟩⟩⟩⟩⟩⟩⟩⟩⟩
theorem lw_p48 : lw_okq (⟨"DilutedDeskModel", "addsWeight", "(III)J"⟩, 23) := ⟨⟨by decide +kernel, by decide +kernel⟩, List.mem_of_getElem? (i := 773) (by decide +kernel), List.mem_of_getElem? (i := 1038) (by decide +kernel), List.mem_of_getElem? (i := 1039) (by decide +kernel)⟩
theorem lw_p49 : lw_okq (⟨"DilutedDeskModel", "byOption", "(II)J"⟩, 23) := ⟨⟨by decide +kernel, by decide +kernel⟩, List.mem_of_getElem? (i := 773) (by decide +kernel), List.mem_of_getElem? (i := 1042) (by decide +kernel), List.mem_of_getElem? (i := 1043) (by decide +kernel)⟩
theorem lw_p50 : lw_okq (⟨"DilutedDeskModel", "priceOf", "(II)I"⟩, 23) := ⟨⟨by decide +kernel, by decide +kernel⟩, List.mem_of_getElem? (i := 773) (by decide +kernel), List.mem_of_getElem? (i := 1046) (by decide +kernel), List.mem_of_getElem? (i := 1047) (by decide +kernel)⟩
theorem lw_p51 : lw_okq (⟨"DilutedDeskModel", "earningsOf", "(II)I"⟩, 23) := ⟨⟨by decide +kernel, by decide +kernel⟩, List.mem_of_getElem? (i := 773) (by decide +kernel), List.mem_of_getElem? (i := 1050) (by decide +kernel), List.mem_of_getElem? (i := 1051) (by decide +kernel)⟩
theorem lw_p52 : lw_okq (⟨"DilutedDeskModel", "diluted", "(III)I"⟩, 23) := ⟨⟨by decide +kernel, by decide +kernel⟩, List.mem_of_getElem? (i := 773) (by decide +kernel), List.mem_of_getElem? (i := 1058) (by decide +kernel), List.mem_of_getElem? (i := 1059) (by decide +kernel)⟩
theorem lw_p53 : lw_okq (⟨"DilutedDeskModel", "reckons", "(III)V"⟩, 23) := ⟨⟨by decide +kernel, by decide +kernel⟩, List.mem_of_getElem? (i := 773) (by decide +kernel), List.mem_of_getElem? (i := 1062) (by decide +kernel), List.mem_of_getElem? (i := 1063) (by decide +kernel)⟩
theorem lw_p54 : lw_okq (⟨"DilutedDeskModel", "isAhead", "(II)Z"⟩, 23) := ⟨⟨by decide +kernel, by decide +kernel⟩, List.mem_of_getElem? (i := 773) (by decide +kernel), List.mem_of_getElem? (i := 1066) (by decide +kernel), List.mem_of_getElem? (i := 1067) (by decide +kernel)⟩
theorem lw_p55 : lw_okq (⟨"DilutedDeskModel", "takes", "(I)V"⟩, 23) := ⟨⟨by decide +kernel, by decide +kernel⟩, List.mem_of_getElem? (i := 773) (by decide +kernel), List.mem_of_getElem? (i := 1070) (by decide +kernel), List.mem_of_getElem? (i := 1071) (by decide +kernel)⟩
theorem lw_p56 : lw_okq (⟨"DilutedDeskModel", "dilutedBy", "(IIII)I"⟩, 23) := ⟨⟨by decide +kernel, by decide +kernel⟩, List.mem_of_getElem? (i := 773) (by decide +kernel), List.mem_of_getElem? (i := 1099) (by decide +kernel), List.mem_of_getElem? (i := 1100) (by decide +kernel)⟩
theorem lw_p57 : lw_okq (⟨"DilutedDeskModel", "isFull", "(I)Z"⟩, 23) := ⟨⟨by decide +kernel, by decide +kernel⟩, List.mem_of_getElem? (i := 773) (by decide +kernel), List.mem_of_getElem? (i := 1111) (by decide +kernel), List.mem_of_getElem? (i := 1112) (by decide +kernel)⟩
theorem lw_p58 : lw_okq (⟨"DilutedDeskModel", "adds", "(III)V"⟩, 23) := ⟨⟨by decide +kernel, by decide +kernel⟩, List.mem_of_getElem? (i := 773) (by decide +kernel), List.mem_of_getElem? (i := 1115) (by decide +kernel), List.mem_of_getElem? (i := 1116) (by decide +kernel)⟩
theorem lw_p59 : lw_okq (⟨"DilutedDeskModel", "snap", "()V"⟩, 23) := ⟨⟨by decide +kernel, by decide +kernel⟩, List.mem_of_getElem? (i := 773) (by decide +kernel), List.mem_of_getElem? (i := 1123) (by decide +kernel), List.mem_of_getElem? (i := 1124) (by decide +kernel)⟩
theorem lw_p60 : lw_okq (⟨"DilutedDeskModel", "becomes", "(II)I"⟩, 23) := ⟨⟨by decide +kernel, by decide +kernel⟩, List.mem_of_getElem? (i := 773) (by decide +kernel), List.mem_of_getElem? (i := 1136) (by decide +kernel), List.mem_of_getElem? (i := 1137) (by decide +kernel)⟩
def lw_privs_4 : List (MethodName × Nat) := [(⟨"DilutedDeskModel", "addsWeight", "(III)J"⟩, 23), (⟨"DilutedDeskModel", "byOption", "(II)J"⟩, 23), (⟨"DilutedDeskModel", "priceOf", "(II)I"⟩, 23), (⟨"DilutedDeskModel", "earningsOf", "(II)I"⟩, 23), (⟨"DilutedDeskModel", "diluted", "(III)I"⟩, 23), (⟨"DilutedDeskModel", "reckons", "(III)V"⟩, 23), (⟨"DilutedDeskModel", "isAhead", "(II)Z"⟩, 23), (⟨"DilutedDeskModel", "takes", "(I)V"⟩, 23), (⟨"DilutedDeskModel", "dilutedBy", "(IIII)I"⟩, 23), (⟨"DilutedDeskModel", "isFull", "(I)Z"⟩, 23), (⟨"DilutedDeskModel", "adds", "(III)V"⟩, 23), (⟨"DilutedDeskModel", "snap", "()V"⟩, 23), (⟨"DilutedDeskModel", "becomes", "(II)I"⟩, 23)]
theorem lw_r4 : ∀ q ∈ lw_privs_4, lw_okq q := List.forall_mem_cons.mpr ⟨lw_p48, List.forall_mem_cons.mpr ⟨lw_p49, List.forall_mem_cons.mpr ⟨lw_p50, List.forall_mem_cons.mpr ⟨lw_p51, List.forall_mem_cons.mpr ⟨lw_p52, List.forall_mem_cons.mpr ⟨lw_p53, List.forall_mem_cons.mpr ⟨lw_p54, List.forall_mem_cons.mpr ⟨lw_p55, List.forall_mem_cons.mpr ⟨lw_p56, List.forall_mem_cons.mpr ⟨lw_p57, List.forall_mem_cons.mpr ⟨lw_p58, List.forall_mem_cons.mpr ⟨lw_p59, List.forall_mem_cons.mpr ⟨lw_p60, fun _ h => absurd h List.not_mem_nil⟩⟩⟩⟩⟩⟩⟩⟩⟩⟩⟩⟩⟩
def lw_privs : List (MethodName × Nat) := lw_privs_1 ++ (lw_privs_2 ++ (lw_privs_3 ++ (lw_privs_4)))
def lw_tbl : List Cond := k2_sels lw_privs ++ tables_1
theorem lw_privs_ok : ∀ q ∈ lw_privs, lw_okq q := by
  show ∀ q ∈ lw_privs_1 ++ (lw_privs_2 ++ (lw_privs_3 ++ (lw_privs_4))), lw_okq q
  exact List.forall_mem_append.mpr ⟨lw_r1, List.forall_mem_append.mpr ⟨lw_r2, List.forall_mem_append.mpr ⟨lw_r3, lw_r4⟩⟩⟩
end
section
/-! ===== BEGIN words of one list among another's, by their places ===== -/
theorem goodIn_r {big : List Cond} (ws : List Cond) (ps : List Nat) (hp : ws = ps.filterMap (fun i => big[i]?)) (h : ws.all goodWord = true) : GoodIn big ws := by
  intro w hw
  have h1 := List.all_eq_true.mp h w hw
  rw [hp] at hw
  obtain ⟨i, -, hi⟩ := List.mem_filterMap.mp hw
  have hm : w ∈ big := by first | exact List.mem_of_getElem? hi | exact List.getElem?_mem hi
  exact ⟨hm, good_of_word h1⟩
theorem goodIn_app {big a b : List Cond} (ha : GoodIn big a) (hb : GoodIn big b) : GoodIn big (a ++ b) := fun w h => (List.mem_append.mp h).elim (ha w) (hb w)
theorem goodIn_ca {big a b : List Cond} {c : Cond} (ha : GoodIn big (c :: a)) (hb : GoodIn big b) : GoodIn big (c :: (a ++ b)) := fun w h => (List.mem_cons.mp h).elim (fun e => ha w (List.mem_cons.mpr (Or.inl e))) (fun h => (List.mem_append.mp h).elim (fun h => ha w (List.mem_cons.mpr (Or.inr h))) (hb w))
theorem goodIn_sub {big ws : List Cond} (hm : ∀ w ∈ ws, w ∈ big) (h : ws.all goodWord = true) : GoodIn big ws := fun w hw => ⟨hm w hw, good_of_word (List.all_eq_true.mp h w hw)⟩
/-! ===== END ===== -/

/-! ===== BEGIN exceptions that leave a method, and their catching by the caller (launches without stack traces) ===== -/
section VXA
/-! The laws vx_back, vx_callV, vx_callS, vx_callSW, vx_throw0, vx_throwS follow proofs of the library, with one case more: JvmDerived/Free/Laws.lean (Back.of_free), Shelf42/LK1.lean (callV, callS), Shelf/KitTraced.lean (throwNew0V, throwNewS). -/
/-- where a method has thrown q: the class by its name, the cell, what was written, the world -/
def vx_T (XC : String → State → State → Prop) (st : State) (q : Addr) (t : State) (mc ms : Nat) (free : Addr → Prop) : Prop :=
  ∃ (E : String) (ce : Cell) (L : List Loc), XC E st t ∧ t.heap[q]? = some ce ∧ ce.vm = .none ∧ st.vm.findClass E = some ce.cls ∧ st.WarmedH t.vm ∧ st.sameButNew ({ t with vm := st.vm } : State) L mc ms ∧ ∀ z ∈ L, free z.base
def vx_Q (Qc : Array Value → State → Outcome → State → Prop) (XC : String → State → State → Prop) (mc ms : Nat) (free : Addr → Prop) : Array Value → State → Outcome → State → Prop := fun a st o t =>
  (Qc a st o t ∧ ∃ L, FrameEnd st o t L mc ms ∧ ∀ q ∈ L, free q.base) ∨ ∃ q, o = .threw q ∧ vx_T XC st q t mc ms free
/-- a callee that returns or throws -/
def vx_Met (l : Launch) (y : MethodName) (ws : List Cond) (rm : Room) (Pc : Array Value → State → Prop) (Qc : Array Value → State → Outcome → State → Prop) (XC : String → State → State → Prop) (mc ms : Nat) (free : Addr → Prop) : Prop :=
  MetFree l y (headSpec ws rm) Pc (fun _ _ _ _ _ => True) (vx_Q Qc XC mc ms free)
def vx_Post (XC : String → State → State → Prop) (mc ms : Nat) (free : Addr → Prop) : Pt → Array Value → Addr → Pt → Prop := fun A a q B =>
  ∃ (g : JFrame) (mk : MethodId) (t : State) (L : List Loc) (E : String) (ce : Cell), B.U.heap = t.heap ∧ B.U.vm = t.vm ∧ XC E (A.U.calling g mk a) t ∧ t.heap[q]? = some ce ∧ ce.vm = .none ∧ A.U.vm.findClass E = some ce.cls ∧ B.locs = A.locs ++ L ∧ (∀ z ∈ L, free z.base) ∧ B.cells = A.cells + mc ∧ B.slots = A.slots + ms
def vx_Back (l : Launch) (R : Room) (p : Program) (e : Env) (below : List Frame) (s : State) (sargs : Array Value) (y : MethodName) (len W9 : Nat)
    (Pre : Pt → Array Value → Prop) (Post : Pt → Array Value → Option Value → Pt → Prop) (PostX : Pt → Array Value → Addr → Pt → Prop) : Prop :=
  ∀ (m : MethodId) (meth : Method) (c : Code) (A : Pt) (g : JFrame) (ig : Instr) (mk : MethodId) (a : Array Value),
    Stand p l e R s m sargs below meth c A.U A.locs A.cells A.slots → g.method = m → g.locals.size = c.maxLocals → decode c.code g.pc = .ok (ig, len) →
    2 * g.monitorRoom + (g.stack.map fun v => v.category).sum ≤ W9 → A.U.methodNamed? y = some mk → Pre A a →
    (∃ (v : Option Value) (B : Pt), Stand p l e R s m sargs below meth c B.U B.locs B.cells B.slots ∧ Post A a v B ∧
      Steps p.tables e below (doInvoke e (A.U.setTop g) [] mk a).1 (B.U.setTop { g with pc := g.pc + len, stack := v.toList ++ g.stack })) ∨
    (∃ (q : Addr) (B : Pt), Stand p l e R s m sargs below meth c B.U B.locs B.cells B.slots ∧ PostX A a q B ∧
      Steps p.tables e below (doInvoke e (A.U.setTop g) [] mk a).1 ((B.U.setTop g).pushFrame (.throwing q)))
section Payer
variable {l : Launch} {R : Room} {p : Program} {e : Env} {below : List Frame} {s : State} {sargs : Array Value} {y : MethodName} {len W9 : Nat}
theorem vx_back {ws : List Cond} {rm : Room} {Pc : Array Value → State → Prop} {Qc : Array Value → State → Outcome → State → Prop} {XC : String → State → State → Prop} {mc ms : Nat} {free : Addr → Prop} {bytes : ByteArray} {maxL : Nat} {ret : Option FieldType}
    (hM : vx_Met l y ws rm Pc Qc XC mc ms free) (hblind : FrameBlind Pc) (hrc : rm.cells = mc) (hrs : rm.slots = ms)
    (hframes : rm.frames + 1 ≤ R.frames) (hlocals : W9 + (maxL + 11) + rm.locals ≤ R.locals)
    (hws : ∀ w ∈ ws, ∀ a' U, s.WarmedH U.vm → w.before a' U = true) (hcode : Cond.code y bytes maxL ret ∈ ws) (hinit : ∀ a' U, s.WarmedH U.vm → (Cond.initialized y.cls).before a' U = true) :
    vx_Back l R p e below s sargs y len W9 (PreOf R mc ms Pc) (PostOf Qc mc ms free) (vx_Post XC mc ms free) := by
  intro m meth c A g ig mk a X hg hsize hdg hW hn hp
  have h1 : (headSpec ws rm).pre.before a A.U = true := atoms_intro fun w hw => hws w hw _ _ X.warmed
  have h2 : (Cond.code y bytes maxL ret).before a A.U = true := hws _ hcode _ _ X.warmed
  have h3 : (Cond.initialized y.cls).before a A.U = true := hinit _ _ X.warmed
  have h4 : A.cells + (headSpec ws rm).room.cells ≤ R.cells := by rw [show (headSpec ws rm).room.cells = mc from hrc]; exact hp.1
  have h5 : A.slots + (headSpec ws rm).room.slots ≤ R.slots := by rw [show (headSpec ws rm).room.slots = ms from hrs]; exact hp.2.1
  have hPc : Pc a (A.U.calling g mk a) := hblind _ _ _ _ hp.2.2
  obtain ⟨U, Ls, c0, s0⟩ := A
  dsimp only [Pt.U, Pt.locs, Pt.cells, Pt.slots] at h1 h2 h3 h4 h5 X hn hPc ⊢
  obtain ⟨methY, cY, hmY, hcY, -, hlY, -, -, -, -⟩ := Cond.code_spec hn h2
  obtain ⟨kY, hkY, -⟩ := className_of_methodNamed hn
  have hinitY : kY.init = .initialized := Cond.initialized_spec (findClass_of_methodNamed hn) hkY h3
  have h : At U g.method c below := by rw [hg]; exact X.here
  have hlocals9 : W9 + (maxL + 11) + (headSpec ws rm).room.locals ≤ R.locals := hlocals
  have happ : (headSpec ws rm).appliesLoose y e.platform (U.calling g mk a) = true :=
    Spec.appliesLoose_calling (g := g) h hdg hn hkY hinitY
      (X.room_calling (g := g) (R' := (headSpec ws rm).room) hsize hmY hcY hframes (by rw [hlY]; omega) h4 h5) h1
  obtain ⟨mid, hmid⟩ := h.above
  have hfr : (U.setTop g).frames = (.java g :: mid) ++ below := by rw [State.frames_setTop' g h.top, hmid]; rfl
  obtain ⟨o, s₂, hsteps, -, hend, hq⟩ := Steps.callFree hM p X.admits X.cas X.clock (acts := []) hfr happ hPc trivial
  have hq' : vx_Q Qc XC mc ms free a (U.calling g mk a) o s₂ := hq
  rw [State.frames_setTop' g h.top] at hend
  obtain ⟨g₀, hg0⟩ := Option.isSome_iff_exists.mp h.top
  obtain ⟨r, hr⟩ := State.topJava?_eq_some.mp hg0
  have hr' : (({ U with heap := s₂.heap, slotsUsed := s₂.slotsUsed } : State).setVm s₂.vm).frames = .java g₀ :: r := hr
  rcases hq' with ⟨hqc, L, hfe, hL⟩ | ⟨q, rfl, E, ce, L, hx, hce, hcv, hcl, hW₂, hsm, hL⟩
  · obtain ⟨⟨v, rfl⟩, hW₂, e2, q2, q3, q4, q5, q6⟩ := id hfe
    have e3 : s₂ = ({ (U.calling g mk a).setFrames s₂.frames with heap := s₂.heap, slotsUsed := s₂.slotsUsed } : State).setVm s₂.vm := by
      have : s₂ = ({ s₂ with vm := (U.calling g mk a).vm } : State).setVm s₂.vm := rfl
      rw [e2] at this
      exact this
    obtain ⟨c₂, i₂, len₂, hc₂, hd₂, hf₂⟩ := hend
    have hW' : U.WarmedH s₂.vm := hW₂
    have hcc : c₂ = c := by
      have h1 : s₂.code? g.method = U.code? g.method := by
        rw [State.code?_eq, State.code?_eq, hW'.alike.method?]
      exact Option.some.inj (hc₂.symm.trans (h1.trans h.code))
    subst hcc
    have hlen : len₂ = len := by rw [hdg] at hd₂; cases hd₂; rfl
    subst hlen
    have hs₂ : s₂ = (({ U with heap := s₂.heap, slotsUsed := s₂.slotsUsed } : State).setVm s₂.vm).setTop { g with pc := g.pc + len₂, stack := v.toList ++ g.stack } := by
      refine e3.trans ?_
      rw [hf₂, State.calling_eq h.top, State.setFrames_setFrames, State.setTop_of_frames _ hr', hr]
      rfl
    have hsame : U.sameButNew ({ U with heap := s₂.heap, slotsUsed := s₂.slotsUsed } : State) L mc ms := by
      refine ⟨?_, q2, q3, q4, q5, q6⟩
      obtain ⟨t, ht, -⟩ := State.frames_cons hr
      show ({ U with heap := s₂.heap, slotsUsed := s₂.slotsUsed } : State) = { U.setFrames U.frames with heap := s₂.heap, slotsUsed := s₂.slotsUsed }
      rw [State.setFrames_self ht]
    subst hg
    refine Or.inl ⟨v, ⟨(({ U with heap := s₂.heap, slotsUsed := s₂.slotsUsed } : State).setVm s₂.vm), Ls ++ L, c0 + mc, s0 + ms⟩,
      ⟨X.admits, X.cas, X.clock, X.frames, X.room, X.hears, X.method, X.code, (X.here.setHeapUsed s₂.heap s₂.slotsUsed).setVm hW'.alike, X.tail, State.WarmedH.trans X.warmed hW', X.limits, X.bytes, X.same.trans (hsame.setVm s.vm)⟩,
      ⟨g, mk, s₂, L, rfl, rfl, hqc, rfl, hL, rfl, rfl⟩, ?_⟩
    show Steps p.tables e below _ ((({ U with heap := s₂.heap, slotsUsed := s₂.slotsUsed } : State).setVm s₂.vm).setTop { g with pc := g.pc + len₂, stack := v.toList ++ g.stack })
    rw [← hs₂]
    exact hsteps
  · obtain ⟨e2, q2, q3, q4, q5, q6⟩ := id hsm
    have e3 : s₂ = ({ (U.calling g mk a).setFrames s₂.frames with heap := s₂.heap, slotsUsed := s₂.slotsUsed } : State).setVm s₂.vm := by
      have : s₂ = ({ s₂ with vm := (U.calling g mk a).vm } : State).setVm s₂.vm := rfl
      rw [e2] at this
      exact this
    have hf₂ : s₂.frames = .throwing q :: .java g :: U.frames.tail := hend
    have hW' : U.WarmedH s₂.vm := hW₂
    have hs₂ : s₂ = ((({ U with heap := s₂.heap, slotsUsed := s₂.slotsUsed } : State).setVm s₂.vm).setTop g).pushFrame (.throwing q) := by
      refine e3.trans ?_
      rw [hf₂, State.calling_eq h.top, State.setFrames_setFrames, State.pushFrame, State.frames_setTop _ hr', State.setTop_of_frames _ hr', State.setFrames_setFrames, hr]
      rfl
    have hsame : U.sameButNew ({ U with heap := s₂.heap, slotsUsed := s₂.slotsUsed } : State) L mc ms := by
      refine ⟨?_, q2, q3, q4, q5, q6⟩
      obtain ⟨t, ht, -⟩ := State.frames_cons hr
      show ({ U with heap := s₂.heap, slotsUsed := s₂.slotsUsed } : State) = { U.setFrames U.frames with heap := s₂.heap, slotsUsed := s₂.slotsUsed }
      rw [State.setFrames_self ht]
    subst hg
    refine Or.inr ⟨q, ⟨(({ U with heap := s₂.heap, slotsUsed := s₂.slotsUsed } : State).setVm s₂.vm), Ls ++ L, c0 + mc, s0 + ms⟩,
      ⟨X.admits, X.cas, X.clock, X.frames, X.room, X.hears, X.method, X.code, (X.here.setHeapUsed s₂.heap s₂.slotsUsed).setVm hW'.alike, X.tail, State.WarmedH.trans X.warmed hW', X.limits, X.bytes, X.same.trans (hsame.setVm s.vm)⟩,
      ⟨g, mk, s₂, L, E, ce, rfl, rfl, hx, hce, hcv, hcl, rfl, hL, rfl, rfl⟩, ?_⟩
    show Steps p.tables e below _ (((({ U with heap := s₂.heap, slotsUsed := s₂.slotsUsed } : State).setVm s₂.vm).setTop g).pushFrame (.throwing q))
    rw [← hs₂]
    exact hsteps
end Payer
section Calls
variable {p : Program} {l : Launch} {e : Env} {R : Room} {s : State} {m : MethodId} {args : Array Value} {below : List Frame} {meth : Method} {c : Code} {T : State} {locs : List Loc} {cells slots : Nat}
theorem vx_callV (X : Stand p l e R s m args below meth c T locs cells slots) (hexec : p.tables.exec = Jvm.exec) {own C : String} {index : Nat} {y : MethodName} {bytes : ByteArray} {maxL : Nat} {ret : Option FieldType}
    (hown : s.vm.findClass own = some m.cls) (hlink : (Cond.methodLink own index y).before args s = true) (hinst : (Cond.instanceMethod y).before args s = true) (hsel : (Cond.selects C y y).before args s = true)
    (hcode : (Cond.code y bytes maxL ret).before args s = true) (hy : y.cls ≠ "java/lang/invoke/MethodHandle" ∧ y.cls ≠ "java/lang/invoke/VarHandle")
    {W9 : Nat} {Pre : Pt → Array Value → Prop} {Post : Pt → Array Value → Option Value → Pt → Prop} {PostX : Pt → Array Value → Addr → Pt → Prop} (hK : vx_Back l R p e below s args y 3 W9 Pre Post PostX)
    {b : Addr} {cellB : Cell} (hcell : T.heap[b]? = some cellB) (hobj : cellB.vm.isStatics = false) (hcls : s.vm.findClass C = some cellB.cls)
    {g : JFrame} (hg : g.method = m) (hsize : g.locals.size = c.maxLocals) {argsL rest : List Value} (hlen : ∀ sig, parseMethodDescriptor y.desc = some sig → argsL.length = sig.parameters.length)
    (hstack : g.stack = argsL.reverse ++ .ref b :: rest) (hW : 2 * g.monitorRoom + (rest.map fun v => v.category).sum ≤ W9) (hdg : decode c.code g.pc = .ok (.invokevirtual index, 3))
    (hpre : ∀ vm₁, s.WarmedH vm₁ → Pre ⟨T.setVm vm₁, locs, cells, slots⟩ (Value.ref b :: argsL).toArray) :
    (∃ (v : Option Value) (vm₁ : Vm) (B : Pt), s.WarmedH vm₁ ∧ Stand p l e R s m args below meth c B.U B.locs B.cells B.slots ∧ Post ⟨T.setVm vm₁, locs, cells, slots⟩ (Value.ref b :: argsL).toArray v B ∧
      ∀ target, Steps p.tables e below (B.U.setTop { g with pc := g.pc + 3, stack := v.toList ++ rest }) target → Steps p.tables e below (T.setTop g) target) ∨
    (∃ (q : Addr) (vm₁ : Vm) (B : Pt), s.WarmedH vm₁ ∧ Stand p l e R s m args below meth c B.U B.locs B.cells B.slots ∧ PostX ⟨T.setVm vm₁, locs, cells, slots⟩ (Value.ref b :: argsL).toArray q B ∧
      Steps p.tables e below (T.setTop g) ((B.U.setTop { g with stack := rest }).pushFrame (.throwing q))) := by
  obtain ⟨mk, methM, hnamed, hmethM, hstM, habM⟩ := Cond.instanceMethod_spec hinst
  obtain ⟨methM', cM, hmethM', -, -, -, -, -, -, hsigM⟩ := Cond.code_spec hnamed hcode
  cases hmethM.symm.trans hmethM'
  obtain ⟨c2, r2, m2, q1, q2, q3, q4, kP, hkP, hkPi⟩ := Cond.selects_spec hsel
  cases hcls.symm.trans q1
  cases (State.methodFound?_of_named hnamed hy).symm.trans q2
  cases hnamed.symm.trans q3
  have hselP : selectMethod e.platform s.vm cellB.cls mk = .method mk := by rw [Launch.admits_selectMethod X.admits]; exact q4
  obtain ⟨vm₁, X₁, hstep₁⟩ := X.invokevirtual hexec hown hlink hnamed hmethM hstM hkP hkPi hy (a := b) (cell := cellB) hcell
    (fun z h => by rw [h] at hobj; cases hobj) hselP hmethM habM hkP hkPi (g := g) hg (argsL := argsL) (rest := rest) (hlen _ hsigM) hstack hdg
  rcases hK m meth c ⟨T.setVm vm₁, locs, cells, slots⟩ { g with stack := rest } (.invokevirtual index) mk (Value.ref b :: argsL).toArray X₁ hg hsize hdg hW (X₁.named hnamed) (hpre vm₁ X₁.warmed) with ⟨v, B, X', hpost, hsteps⟩ | ⟨q, B, X', hpost, hsteps⟩
  · exact Or.inl ⟨v, vm₁, B, X₁.warmed, X', hpost, fun target h => hstep₁ _ fun acts => by rw [doInvoke_state]; exact hsteps.trans h⟩
  · exact Or.inr ⟨q, vm₁, B, X₁.warmed, X', hpost, hstep₁ _ fun acts => by rw [doInvoke_state]; exact hsteps⟩
theorem vx_callS (X : Stand p l e R s m args below meth c T locs cells slots) (hexec : p.tables.exec = Jvm.exec) {own : String} {index : Nat} {y : MethodName} {bytes : ByteArray} {maxL : Nat} {ret : Option FieldType}
    (hown : s.vm.findClass own = some m.cls) (hlink : (Cond.methodLink own index y).before args s = true) (hstat : (Cond.static y).before args s = true) (hinit : (Cond.initialized y.cls).before args s = true)
    (hcode : (Cond.code y bytes maxL ret).before args s = true) (hy : y.cls ≠ "java/lang/invoke/MethodHandle" ∧ y.cls ≠ "java/lang/invoke/VarHandle")
    {W9 : Nat} {Pre : Pt → Array Value → Prop} {Post : Pt → Array Value → Option Value → Pt → Prop} {PostX : Pt → Array Value → Addr → Pt → Prop} (hK : vx_Back l R p e below s args y 3 W9 Pre Post PostX)
    {g : JFrame} (hg : g.method = m) (hsize : g.locals.size = c.maxLocals) {argsL rest : List Value} (hlen : ∀ sig, parseMethodDescriptor y.desc = some sig → argsL.length = sig.parameters.length)
    (hstack : g.stack = argsL.reverse ++ rest) (hW : 2 * g.monitorRoom + (rest.map fun v => v.category).sum ≤ W9) (hdg : decode c.code g.pc = .ok (.invokestatic index, 3))
    (hpre : ∀ vm₁, s.WarmedH vm₁ → Pre ⟨T.setVm vm₁, locs, cells, slots⟩ argsL.toArray) :
    (∃ (v : Option Value) (vm₁ : Vm) (B : Pt), s.WarmedH vm₁ ∧ Stand p l e R s m args below meth c B.U B.locs B.cells B.slots ∧ Post ⟨T.setVm vm₁, locs, cells, slots⟩ argsL.toArray v B ∧
      ∀ target, Steps p.tables e below (B.U.setTop { g with pc := g.pc + 3, stack := v.toList ++ rest }) target → Steps p.tables e below (T.setTop g) target) ∨
    (∃ (q : Addr) (vm₁ : Vm) (B : Pt), s.WarmedH vm₁ ∧ Stand p l e R s m args below meth c B.U B.locs B.cells B.slots ∧ PostX ⟨T.setVm vm₁, locs, cells, slots⟩ argsL.toArray q B ∧
      Steps p.tables e below (T.setTop g) ((B.U.setTop { g with stack := rest }).pushFrame (.throwing q))) := by
  obtain ⟨mk, hnamed⟩ := Cond.code_named hcode
  obtain ⟨methM, cM, hmethM, -, -, -, -, -, -, hsigM⟩ := Cond.code_spec hnamed hcode
  have hstatic : methM.isStatic = true := Cond.static_spec hnamed hmethM hstat
  obtain ⟨kP, hkP, -⟩ := className_of_methodNamed hnamed
  have hinitP : kP.init = .initialized := Cond.initialized_spec (findClass_of_methodNamed hnamed) hkP hinit
  obtain ⟨vm₁, X₁, hstep₁⟩ := X.invokestatic hexec hown hlink hnamed hmethM hstatic hkP hinitP hy (g := g) hg (argsL := argsL) (rest := rest) (hlen _ hsigM) hstack hdg
  rcases hK m meth c ⟨T.setVm vm₁, locs, cells, slots⟩ { g with stack := rest } (.invokestatic index) mk argsL.toArray X₁ hg hsize hdg hW (X₁.named hnamed) (hpre vm₁ X₁.warmed) with ⟨v, B, X', hpost, hsteps⟩ | ⟨q, B, X', hpost, hsteps⟩
  · exact Or.inl ⟨v, vm₁, B, X₁.warmed, X', hpost, fun target h => hstep₁ _ fun acts => by rw [doInvoke_state]; exact hsteps.trans h⟩
  · exact Or.inr ⟨q, vm₁, B, X₁.warmed, X', hpost, hstep₁ _ fun acts => by rw [doInvoke_state]; exact hsteps⟩
end Calls
theorem vx_cls {s : State} {T : State} {vm₁ : Vm} {E : String} {k : ClassId} (hW : s.WarmedH vm₁) (h : (T.setVm vm₁).vm.findClass E = some k) : s.vm.findClass E = some k := by
  have h1 : vm₁.findClass E = some k := h
  rw [hW.alike.findClass] at h1
  exact h1
/-- the method's frame g, with q thrown over it -/
def vx_W (p : Program) (l : Launch) (e : Env) (R : Room) (s : State) (m : MethodId) (args : Array Value) (below : List Frame) (meth : Method) (c : Code) (H : Heap) (locs : List Loc) (cells slots : Nat) (Q : State → Prop) (g : JFrame) (q : Addr) : Prop :=
  ∀ T : State, T.heap = H → Stand p l e R s m args below meth c T locs cells slots → ∃ t, Steps p.tables e below ((T.setTop g).pushFrame (.throwing q)) t ∧ Q t
def vx_Run (p : Program) (l : Launch) (e : Env) (R : Room) (s : State) (m : MethodId) (args : Array Value) (below : List Frame) (meth : Method) (c : Code) (H : Heap) (locs : List Loc) (cells slots mc ms : Nat) (g : JFrame) (rest : List Value) (Qa : State → Outcome → State → Prop) (XC : String → State → State → Prop) (free : Addr → Prop) : Prop :=
  ∀ T : State, T.heap = H → Stand p l e R s m args below meth c T locs cells slots →
    (∃ (v : Option Value) (st₀ t T' : State) (L : List Loc), st₀.heap = H ∧ Stand p l e R s m args below meth c T' (locs ++ L) (cells + mc) (slots + ms) ∧ (∀ q ∈ L, free q.base) ∧ T'.heap = t.heap ∧ T'.vm = t.vm ∧ Qa st₀ (.returned v) t ∧
      Goes p e below T g T' { g with pc := g.pc + 3, stack := v.toList ++ rest }) ∨
    (∃ (q : Addr) (st₀ t T' : State) (L : List Loc) (E : String) (ce : Cell), st₀.heap = H ∧ Stand p l e R s m args below meth c T' (locs ++ L) (cells + mc) (slots + ms) ∧ (∀ z ∈ L, free z.base) ∧ T'.heap = t.heap ∧ T'.vm = t.vm ∧ XC E st₀ t ∧ t.heap[q]? = some ce ∧ ce.vm = .none ∧ s.vm.findClass E = some ce.cls ∧
      Steps p.tables e below (T.setTop g) ((T'.setTop { g with stack := rest }).pushFrame (.throwing q)))
def vx_X {S : Type} (px : S → Prop) (B : String → S → State → Prop) (A : Nat → Prop) : String → State → State → Prop := fun E st t => ∃ u : S, px u ∧ B E u t ∧ va_F A st t
section Runs
variable {p : Program} {l : Launch} {e : Env} {R : Room} {s : State} {m : MethodId} {args : Array Value} {below : List Frame} {meth : Method} {c : Code} {H : Heap} {locs : List Loc} {cells slots : Nat}
variable {y : MethodName} {bytes cc : ByteArray} {maxL nL mc ms n index : Nat} {ret : Option FieldType} {ws : List Cond} {rm : Room} {Pc : Array Value → State → Prop} {Qc : Array Value → State → Outcome → State → Prop} {XC : String → State → State → Prop} {free : Addr → Prop} {Ts : List Cond} {own C : String} {b : Addr} {As rest : List Value} {g : JFrame}
theorem vx_callBack (cb : CallB R s args own index y bytes maxL ret ws rm mc ms n) (hM : vx_Met l y ws rm Pc Qc XC mc ms free) (hbl : FrameBlind Pc) : vx_Back l R p e below s args y 3 8 (PreOf R mc ms Pc) (PostOf Qc mc ms free) (vx_Post XC mc ms free) := by
  obtain ⟨hrc, hrs, hfr, hlo, hws, hcw, -, hini, -⟩ := cb
  exact vx_back (bytes := bytes) (maxL := maxL) (ret := ret) hM hbl hrc hrs hfr hlo hws hcw (fun a' U hW => word_at hW (Or.inl (by first | rfl | simp [Cond.onTables, Cond.keeps, Cond.steady])) hini)
theorem vx_runV (S : CallFix p m c cc nL s args Ts own) (hM : vx_Met l y ws rm Pc Qc XC mc ms free) (cw : CallW R s args own C index y bytes maxL ret ws rm mc ms n) (hp : PreV s H C b Pc As)
    (hg : g.method = m) (hn : As.length = n) (hsize : g.locals.size = nL) (hstack : g.stack = As.reverse ++ .ref b :: rest) (hW : 2 * g.monitorRoom + (rest.map fun v => v.category).sum ≤ 8) (hdg : decode cc g.pc = .ok (.invokevirtual index, 3)) (hf : cells + mc ≤ R.cells ∧ slots + ms ≤ R.slots) :
    vx_Run p l e R s m args below meth c H locs cells slots mc ms g rest (Qc (Value.ref b :: As).toArray) XC free := by
  have hK : vx_Back l R p e below s args y 3 8 (PreOf R mc ms Pc) (PostOf Qc mc ms free) (vx_Post XC mc ms free) := vx_callBack cw.1 hM hp.1
  obtain ⟨⟨-, -, -, -, -, -, hcode, -, hy, hlen, hl⟩, hin, hse⟩ := cw
  obtain ⟨hx, hb, hml, ho, -⟩ := S
  obtain ⟨-, ⟨cellB, hcB, hoB, hclB⟩, hPc⟩ := hp
  intro T hT X
  rcases vx_callV X hx (C := C) (bytes := bytes) (maxL := maxL) (ret := ret) ho hl hin hse hcode hy hK (by rw [hT]; exact hcB) hoB hclB hg (hsize.trans hml.symm) (argsL := As) (rest := rest) (fun sig h => hn.trans (hlen sig h)) hstack hW (by rw [hb]; exact hdg)
    (fun vm₁ hW₁ => ⟨hf.1, hf.2, hPc (T.setVm vm₁) hT hW₁⟩) with ⟨v, vm₁, ⟨U', l2, c2, s2⟩, hW₁, X', ⟨g', mk, t, L, e1, e2, hq, h1, hL, h2, h3⟩, st⟩ | ⟨q, vm₁, ⟨U', l2, c2, s2⟩, hW₁, X', ⟨g', mk, t, L, E, ce, e1, e2, hq, hce, hcv, hcl, h1, hL, h2, h3⟩, st⟩
  · dsimp only [Pt.U, Pt.locs, Pt.cells, Pt.slots] at X' e1 e2 h1 h2 h3 st
    subst h1; subst h2; subst h3
    exact Or.inl ⟨v, (T.setVm vm₁).calling g' mk (Value.ref b :: As).toArray, t, U', L, hT, X', hL, e1, e2, hq, st⟩
  · dsimp only [Pt.U, Pt.locs, Pt.cells, Pt.slots] at X' e1 e2 h1 h2 h3 st hcl
    subst h1; subst h2; subst h3
    exact Or.inr ⟨q, (T.setVm vm₁).calling g' mk (Value.ref b :: As).toArray, t, U', L, E, ce, hT, X', hL, e1, e2, hq, hce, hcv, vx_cls hW₁ hcl, st⟩
theorem vx_runS (S : CallFix p m c cc nL s args Ts own) (hM : vx_Met l y ws rm Pc Qc XC mc ms free) (cw : CallB R s args own index y bytes maxL ret ws rm mc ms n ∧ (Cond.static y).before args s = true) (hp : PreS s H Pc As)
    (hg : g.method = m) (hn : As.length = n) (hsize : g.locals.size = nL) (hstack : g.stack = As.reverse ++ rest) (hW : 2 * g.monitorRoom + (rest.map fun v => v.category).sum ≤ 8) (hdg : decode cc g.pc = .ok (.invokestatic index, 3)) (hf : cells + mc ≤ R.cells ∧ slots + ms ≤ R.slots) :
    vx_Run p l e R s m args below meth c H locs cells slots mc ms g rest (Qc As.toArray) XC free := by
  have hK : vx_Back l R p e below s args y 3 8 (PreOf R mc ms Pc) (PostOf Qc mc ms free) (vx_Post XC mc ms free) := vx_callBack cw.1 hM hp.1
  obtain ⟨⟨-, -, -, -, -, -, hcode, hini, hy, hlen, hl⟩, hstt⟩ := cw
  obtain ⟨hx, hb, hml, ho, -⟩ := S
  intro T hT X
  rcases vx_callS X hx (bytes := bytes) (maxL := maxL) (ret := ret) ho hl hstt hini hcode hy hK hg (hsize.trans hml.symm) (argsL := As) (rest := rest) (fun sig h => hn.trans (hlen sig h)) hstack hW (by rw [hb]; exact hdg)
    (fun vm₁ hW₁ => ⟨hf.1, hf.2, hp.2 (T.setVm vm₁) hT hW₁⟩) with ⟨v, vm₁, ⟨U', l2, c2, s2⟩, hW₁, X', ⟨g', mk, t, L, e1, e2, hq, h1, hL, h2, h3⟩, st⟩ | ⟨q, vm₁, ⟨U', l2, c2, s2⟩, hW₁, X', ⟨g', mk, t, L, E, ce, e1, e2, hq, hce, hcv, hcl, h1, hL, h2, h3⟩, st⟩
  · dsimp only [Pt.U, Pt.locs, Pt.cells, Pt.slots] at X' e1 e2 h1 h2 h3 st
    subst h1; subst h2; subst h3
    exact Or.inl ⟨v, (T.setVm vm₁).calling g' mk As.toArray, t, U', L, hT, X', hL, e1, e2, hq, st⟩
  · dsimp only [Pt.U, Pt.locs, Pt.cells, Pt.slots] at X' e1 e2 h1 h2 h3 st hcl
    subst h1; subst h2; subst h3
    exact Or.inr ⟨q, (T.setVm vm₁).calling g' mk As.toArray, t, U', L, E, ce, hT, X', hL, e1, e2, hq, hce, hcv, vx_cls hW₁ hcl, st⟩
end Runs
section Rows
variable {p : Program} {l : Launch} {e : Env} {R : Room} {s : State} {m : MethodId} {args : Array Value} {below : List Frame} {meth : Method} {c : Code} {H : Heap} {locs : List Loc} {cells slots : Nat} {Q : State → Prop}
variable {mc ms : Nat} {free : Addr → Prop} {A0 A1 : Nat → Prop} {H0 : Heap} {a : Array Value} {pc : Nat} {ls : Array Slot} {st0 rest : List Value}
theorem vx_keep {st₀ t T' : State} {L : List Loc} (h0 : st₀.heap = H) (e1 : T'.heap = t.heap) (hS : va_S A0 H0 H locs) (hA : ∀ q, q < H.size → A1 q → A0 q) (hf : ∀ q, free q → A0 q) (hL : ∀ q ∈ L, free q.base) (hF : va_F A1 st₀ t) :
    H.size ≤ T'.heap.size ∧ (∀ q : Nat, q < H.size → ¬ A1 q → T'.heap[q]? = H[q]?) ∧ va_S A0 H0 T'.heap (locs ++ L) := by
  obtain ⟨hz, hk⟩ := hF
  rw [h0] at hz hk
  exact ⟨by rw [e1]; exact hz, fun q h1 h2 => by rw [e1]; exact hk q h1 h2,
    ⟨Nat.le_trans hS.1 (by rw [e1]; exact hz), fun q h1 h2 => by rw [e1, hk q (Nat.lt_of_lt_of_le h1 hS.1) (fun z => h2 (hA q (Nat.lt_of_lt_of_le h1 hS.1) z))]; exact hS.2.1 q h1 h2, fun q hq => by
      rcases List.mem_append.mp hq with h | h
      · exact hS.2.2 q h
      · exact hf _ (hL q h)⟩⟩
theorem vx_calli {S SX : Type} {post : Int32 → S → Prop} {px : SX → Prop} {B : S → State → Prop} {BX : String → SX → State → Prop} {AX : Nat → Prop} (hr : vx_Run p l e R s m args below meth c H locs cells slots mc ms (F0 m pc ls st0) rest (va_Qi post B A1 a) (vx_X px BX AX) free) (hS : va_S A0 H0 H locs) (hA : ∀ q, q < H.size → A1 q → A0 q) (hf : ∀ q, free q → A0 q) (hAX : ∀ q, q < H.size → AX q → A0 q)
    (kx : ∀ (E : String) (ce : Cell) (q9 : Addr) (u : SX) (t : State) (H1 : Heap) (locs1 : List Loc), t.heap = H1 → s.vm.Alike t.vm → px u → BX E u t → H.size ≤ H1.size → (∀ q : Nat, q < H.size → ¬ AX q → H1[q]? = H[q]?) → va_S A0 H0 H1 locs1 → H1[q9]? = some ce → ce.vm = .none → s.vm.findClass E = some ce.cls → vx_W p l e R s m args below meth c H1 locs1 (cells + mc) (slots + ms) Q (F0 m pc ls rest) q9)
    (kk : ∀ (r : Int32) (u : S) (t : State) (H1 : Heap) (locs1 : List Loc), t.heap = H1 → s.vm.Alike t.vm → post r u → B u t → H.size ≤ H1.size → (∀ q : Nat, q < H.size → ¬ A1 q → H1[q]? = H[q]?) → va_S A0 H0 H1 locs1 → W p l e R s m args below meth c H1 locs1 (cells + mc) (slots + ms) Q (F0 m (pc + 3) ls (.int r :: rest))) : W p l e R s m args below meth c H locs cells slots Q (F0 m pc ls st0) := by
  intro T hT X
  rcases hr T hT X with ⟨v, st₀, t, T', L, h0, X', hL, e1, e2, ⟨⟨r, u, hv, hp, hb⟩, hF⟩, st⟩ | ⟨q, st₀, t, T', L, E, ce, h0, X', hL, e1, e2, ⟨u, hp, hb, hF⟩, hce, hcv, hcl, st⟩
  · cases hv
    obtain ⟨k1, k2, k3⟩ := vx_keep h0 e1 hS hA hf hL hF
    obtain ⟨t2, a1, b1⟩ := kk r u t T'.heap (locs ++ L) e1.symm (by rw [← e2]; exact X'.warmed.alike) hp hb k1 k2 k3 T' rfl X'
    exact ⟨t2, st t2 a1, b1⟩
  · obtain ⟨k1, k2, k3⟩ := vx_keep h0 e1 hS hAX hf hL hF
    obtain ⟨t2, a1, b1⟩ := kx E ce q u t T'.heap (locs ++ L) e1.symm (by rw [← e2]; exact X'.warmed.alike) hp hb k1 k2 k3 (by rw [e1]; exact hce) hcv hcl T' rfl X'
    exact ⟨t2, st.trans a1, b1⟩
theorem vx_calll {S SX : Type} {post : Int64 → S → Prop} {px : SX → Prop} {B : S → State → Prop} {BX : String → SX → State → Prop} {AX : Nat → Prop} (hr : vx_Run p l e R s m args below meth c H locs cells slots mc ms (F0 m pc ls st0) rest (va_Ql post B A1 a) (vx_X px BX AX) free) (hS : va_S A0 H0 H locs) (hA : ∀ q, q < H.size → A1 q → A0 q) (hf : ∀ q, free q → A0 q) (hAX : ∀ q, q < H.size → AX q → A0 q)
    (kx : ∀ (E : String) (ce : Cell) (q9 : Addr) (u : SX) (t : State) (H1 : Heap) (locs1 : List Loc), t.heap = H1 → s.vm.Alike t.vm → px u → BX E u t → H.size ≤ H1.size → (∀ q : Nat, q < H.size → ¬ AX q → H1[q]? = H[q]?) → va_S A0 H0 H1 locs1 → H1[q9]? = some ce → ce.vm = .none → s.vm.findClass E = some ce.cls → vx_W p l e R s m args below meth c H1 locs1 (cells + mc) (slots + ms) Q (F0 m pc ls rest) q9)
    (kk : ∀ (r : Int64) (u : S) (t : State) (H1 : Heap) (locs1 : List Loc), t.heap = H1 → s.vm.Alike t.vm → post r u → B u t → H.size ≤ H1.size → (∀ q : Nat, q < H.size → ¬ A1 q → H1[q]? = H[q]?) → va_S A0 H0 H1 locs1 → W p l e R s m args below meth c H1 locs1 (cells + mc) (slots + ms) Q (F0 m (pc + 3) ls (.long r :: rest))) : W p l e R s m args below meth c H locs cells slots Q (F0 m pc ls st0) := by
  intro T hT X
  rcases hr T hT X with ⟨v, st₀, t, T', L, h0, X', hL, e1, e2, ⟨⟨r, u, hv, hp, hb⟩, hF⟩, st⟩ | ⟨q, st₀, t, T', L, E, ce, h0, X', hL, e1, e2, ⟨u, hp, hb, hF⟩, hce, hcv, hcl, st⟩
  · cases hv
    obtain ⟨k1, k2, k3⟩ := vx_keep h0 e1 hS hA hf hL hF
    obtain ⟨t2, a1, b1⟩ := kk r u t T'.heap (locs ++ L) e1.symm (by rw [← e2]; exact X'.warmed.alike) hp hb k1 k2 k3 T' rfl X'
    exact ⟨t2, st t2 a1, b1⟩
  · obtain ⟨k1, k2, k3⟩ := vx_keep h0 e1 hS hAX hf hL hF
    obtain ⟨t2, a1, b1⟩ := kx E ce q u t T'.heap (locs ++ L) e1.symm (by rw [← e2]; exact X'.warmed.alike) hp hb k1 k2 k3 (by rw [e1]; exact hce) hcv hcl T' rfl X'
    exact ⟨t2, st.trans a1, b1⟩
theorem vx_callf {S SX : Type} {post : UInt32 → S → Prop} {px : SX → Prop} {B : S → State → Prop} {BX : String → SX → State → Prop} {AX : Nat → Prop} (hr : vx_Run p l e R s m args below meth c H locs cells slots mc ms (F0 m pc ls st0) rest (va_Qf post B A1 a) (vx_X px BX AX) free) (hS : va_S A0 H0 H locs) (hA : ∀ q, q < H.size → A1 q → A0 q) (hf : ∀ q, free q → A0 q) (hAX : ∀ q, q < H.size → AX q → A0 q)
    (kx : ∀ (E : String) (ce : Cell) (q9 : Addr) (u : SX) (t : State) (H1 : Heap) (locs1 : List Loc), t.heap = H1 → s.vm.Alike t.vm → px u → BX E u t → H.size ≤ H1.size → (∀ q : Nat, q < H.size → ¬ AX q → H1[q]? = H[q]?) → va_S A0 H0 H1 locs1 → H1[q9]? = some ce → ce.vm = .none → s.vm.findClass E = some ce.cls → vx_W p l e R s m args below meth c H1 locs1 (cells + mc) (slots + ms) Q (F0 m pc ls rest) q9)
    (kk : ∀ (r : UInt32) (u : S) (t : State) (H1 : Heap) (locs1 : List Loc), t.heap = H1 → s.vm.Alike t.vm → post r u → B u t → H.size ≤ H1.size → (∀ q : Nat, q < H.size → ¬ A1 q → H1[q]? = H[q]?) → va_S A0 H0 H1 locs1 → W p l e R s m args below meth c H1 locs1 (cells + mc) (slots + ms) Q (F0 m (pc + 3) ls (.float r :: rest))) : W p l e R s m args below meth c H locs cells slots Q (F0 m pc ls st0) := by
  intro T hT X
  rcases hr T hT X with ⟨v, st₀, t, T', L, h0, X', hL, e1, e2, ⟨⟨r, u, hv, hp, hb⟩, hF⟩, st⟩ | ⟨q, st₀, t, T', L, E, ce, h0, X', hL, e1, e2, ⟨u, hp, hb, hF⟩, hce, hcv, hcl, st⟩
  · cases hv
    obtain ⟨k1, k2, k3⟩ := vx_keep h0 e1 hS hA hf hL hF
    obtain ⟨t2, a1, b1⟩ := kk r u t T'.heap (locs ++ L) e1.symm (by rw [← e2]; exact X'.warmed.alike) hp hb k1 k2 k3 T' rfl X'
    exact ⟨t2, st t2 a1, b1⟩
  · obtain ⟨k1, k2, k3⟩ := vx_keep h0 e1 hS hAX hf hL hF
    obtain ⟨t2, a1, b1⟩ := kx E ce q u t T'.heap (locs ++ L) e1.symm (by rw [← e2]; exact X'.warmed.alike) hp hb k1 k2 k3 (by rw [e1]; exact hce) hcv hcl T' rfl X'
    exact ⟨t2, st.trans a1, b1⟩
theorem vx_calld {S SX : Type} {post : UInt64 → S → Prop} {px : SX → Prop} {B : S → State → Prop} {BX : String → SX → State → Prop} {AX : Nat → Prop} (hr : vx_Run p l e R s m args below meth c H locs cells slots mc ms (F0 m pc ls st0) rest (va_Qd post B A1 a) (vx_X px BX AX) free) (hS : va_S A0 H0 H locs) (hA : ∀ q, q < H.size → A1 q → A0 q) (hf : ∀ q, free q → A0 q) (hAX : ∀ q, q < H.size → AX q → A0 q)
    (kx : ∀ (E : String) (ce : Cell) (q9 : Addr) (u : SX) (t : State) (H1 : Heap) (locs1 : List Loc), t.heap = H1 → s.vm.Alike t.vm → px u → BX E u t → H.size ≤ H1.size → (∀ q : Nat, q < H.size → ¬ AX q → H1[q]? = H[q]?) → va_S A0 H0 H1 locs1 → H1[q9]? = some ce → ce.vm = .none → s.vm.findClass E = some ce.cls → vx_W p l e R s m args below meth c H1 locs1 (cells + mc) (slots + ms) Q (F0 m pc ls rest) q9)
    (kk : ∀ (r : UInt64) (u : S) (t : State) (H1 : Heap) (locs1 : List Loc), t.heap = H1 → s.vm.Alike t.vm → post r u → B u t → H.size ≤ H1.size → (∀ q : Nat, q < H.size → ¬ A1 q → H1[q]? = H[q]?) → va_S A0 H0 H1 locs1 → W p l e R s m args below meth c H1 locs1 (cells + mc) (slots + ms) Q (F0 m (pc + 3) ls (.double r :: rest))) : W p l e R s m args below meth c H locs cells slots Q (F0 m pc ls st0) := by
  intro T hT X
  rcases hr T hT X with ⟨v, st₀, t, T', L, h0, X', hL, e1, e2, ⟨⟨r, u, hv, hp, hb⟩, hF⟩, st⟩ | ⟨q, st₀, t, T', L, E, ce, h0, X', hL, e1, e2, ⟨u, hp, hb, hF⟩, hce, hcv, hcl, st⟩
  · cases hv
    obtain ⟨k1, k2, k3⟩ := vx_keep h0 e1 hS hA hf hL hF
    obtain ⟨t2, a1, b1⟩ := kk r u t T'.heap (locs ++ L) e1.symm (by rw [← e2]; exact X'.warmed.alike) hp hb k1 k2 k3 T' rfl X'
    exact ⟨t2, st t2 a1, b1⟩
  · obtain ⟨k1, k2, k3⟩ := vx_keep h0 e1 hS hAX hf hL hF
    obtain ⟨t2, a1, b1⟩ := kx E ce q u t T'.heap (locs ++ L) e1.symm (by rw [← e2]; exact X'.warmed.alike) hp hb k1 k2 k3 (by rw [e1]; exact hce) hcv hcl T' rfl X'
    exact ⟨t2, st.trans a1, b1⟩
theorem vx_callv {S SX : Type} {post : S → Prop} {px : SX → Prop} {B : S → State → Prop} {BX : String → SX → State → Prop} {AX : Nat → Prop} (hr : vx_Run p l e R s m args below meth c H locs cells slots mc ms (F0 m pc ls st0) rest (va_Qv post B A1 a) (vx_X px BX AX) free) (hS : va_S A0 H0 H locs) (hA : ∀ q, q < H.size → A1 q → A0 q) (hf : ∀ q, free q → A0 q) (hAX : ∀ q, q < H.size → AX q → A0 q)
    (kx : ∀ (E : String) (ce : Cell) (q9 : Addr) (u : SX) (t : State) (H1 : Heap) (locs1 : List Loc), t.heap = H1 → s.vm.Alike t.vm → px u → BX E u t → H.size ≤ H1.size → (∀ q : Nat, q < H.size → ¬ AX q → H1[q]? = H[q]?) → va_S A0 H0 H1 locs1 → H1[q9]? = some ce → ce.vm = .none → s.vm.findClass E = some ce.cls → vx_W p l e R s m args below meth c H1 locs1 (cells + mc) (slots + ms) Q (F0 m pc ls rest) q9)
    (kk : ∀ (u : S) (t : State) (H1 : Heap) (locs1 : List Loc), t.heap = H1 → s.vm.Alike t.vm → post u → B u t → H.size ≤ H1.size → (∀ q : Nat, q < H.size → ¬ A1 q → H1[q]? = H[q]?) → va_S A0 H0 H1 locs1 → W p l e R s m args below meth c H1 locs1 (cells + mc) (slots + ms) Q (F0 m (pc + 3) ls (rest))) : W p l e R s m args below meth c H locs cells slots Q (F0 m pc ls st0) := by
  intro T hT X
  rcases hr T hT X with ⟨v, st₀, t, T', L, h0, X', hL, e1, e2, ⟨⟨u, hv, hp, hb⟩, hF⟩, st⟩ | ⟨q, st₀, t, T', L, E, ce, h0, X', hL, e1, e2, ⟨u, hp, hb, hF⟩, hce, hcv, hcl, st⟩
  · cases hv
    obtain ⟨k1, k2, k3⟩ := vx_keep h0 e1 hS hA hf hL hF
    obtain ⟨t2, a1, b1⟩ := kk u t T'.heap (locs ++ L) e1.symm (by rw [← e2]; exact X'.warmed.alike) hp hb k1 k2 k3 T' rfl X'
    exact ⟨t2, st t2 a1, b1⟩
  · obtain ⟨k1, k2, k3⟩ := vx_keep h0 e1 hS hAX hf hL hF
    obtain ⟨t2, a1, b1⟩ := kx E ce q u t T'.heap (locs ++ L) e1.symm (by rw [← e2]; exact X'.warmed.alike) hp hb k1 k2 k3 (by rw [e1]; exact hce) hcv hcl T' rfl X'
    exact ⟨t2, st.trans a1, b1⟩
/-- caught by the row x of this method's table; the rows ahead don't take it -/
theorem vx_catch {own name : String} {E : String} {ce : Cell} {q : Addr} (hown : s.vm.findClass own = some m.cls) (pre : List ExceptionTableEntry) (x : ExceptionTableEntry) (suf : List ExceptionTableEntry) (hsplit : c.exceptionTable.toList = pre ++ x :: suf)
    (hpass : ∀ z ∈ pre, covers z pc = false ∨ (z.catchType ≠ 0 ∧ ∃ nm : String, (Cond.classLink own z.catchType nm).before args s = true ∧ va_Nc E nm s)) (hx : covers x pc = true) (h0 : x.catchType ≠ 0)
    (hlink : (Cond.classLink own x.catchType name).before args s = true) (hcast : (Cond.castable E name).before args s = true) (hcell : H[q]? = some ce) (hv : ce.vm = .none) (hcl : s.vm.findClass E = some ce.cls)
    (kk : W p l e R s m args below meth c H locs cells slots Q (F0 m x.handlerPc ls [.ref q])) : vx_W p l e R s m args below meth c H locs cells slots Q (F0 m pc ls rest) q := by
  intro T hT X
  have hpl : e.platform.magicAccessors = ({} : Platform).magicAccessors := by rw [X.admits.platform]
  obtain ⟨c3, c4, hc3, hc4, hasg⟩ := Cond.castable_spec hcast
  cases Option.some.inj (hc3.symm.trans hcl)
  obtain ⟨c5, hc5, hcl5⟩ := Cond.classLink_spec hown hlink e.platform hpl
  cases Option.some.inj (hc4.symm.trans hc5)
  obtain ⟨vm', X', st⟩ := X.thenCaughtThrough q (g := F0 m pc ls rest) rfl (Steps.refl _) (by rw [hT]; exact hcell) (by rw [hv]; rfl) (by obtain ⟨k9, h9, -⟩ := Vm.findClass_spec hcl; exact ⟨k9, h9⟩) pre x suf hsplit
    (fun z hz => by
      rcases hpass z hz with h | ⟨hz0, nm, hl1, hn1⟩
      · exact Or.inl h
      · obtain ⟨c6, hc6, hcl6⟩ := Cond.classLink_spec hown hl1 e.platform hpl
        obtain ⟨a8, b8, h1, h2, h3⟩ := hn1
        cases Option.some.inj (h1.symm.trans hcl)
        cases Option.some.inj (h2.symm.trans hc6)
        exact Or.inr ⟨hz0, _, hcl6, h3⟩) hx (Or.inr ⟨h0, c4, hcl5, hasg⟩)
  obtain ⟨t, a1, b1⟩ := kk (T.setVm vm') hT X'
  exact ⟨t, st.trans a1, b1⟩
end Rows
section Ends
variable {p : Program} {l : Launch} {e : Env} {R : Room} {s : State} {m : MethodId} {args : Array Value} {below : List Frame} {meth : Method} {c : Code} {H : Heap} {locs : List Loc} {cells slots : Nat} {Q : State → Prop}
variable {mc ms : Nat} {free : Addr → Prop} {A0 A1 : Nat → Prop} {H0 : Heap} {a : Array Value} {ls : Array Slot} {st0 rest : List Value}
variable {Qc : Array Value → State → Outcome → State → Prop} {XC : String → State → State → Prop}
/-- what a body that may throw owes at its end -/
def vx_MQ (below : List Frame) (Qc : Array Value → State → Outcome → State → Prop) (XC : String → State → State → Prop) (a : Array Value) (s : State) (mc ms : Nat) (free : Addr → Prop) : State → Prop := fun t =>
  ∃ o, t.status = .running ∧ Ended t below o ∧ vx_Q Qc XC mc ms free a s o t
theorem vx_ret {g : JFrame} {mc ms : Nat} (k : W p l e R s m args below meth c H locs cells slots (MQ below Qc args s mc ms free) g) : W p l e R s m args below meth c H locs cells slots (vx_MQ below Qc XC args s mc ms free) g := by
  intro T hT X
  obtain ⟨t, a1, o, b1, b2, b3, b4⟩ := k T hT X
  exact ⟨t, a1, o, b1, b2, Or.inl ⟨b3, b4⟩⟩
/-- not caught here: it goes on to the caller -/
theorem vx_widen {g : JFrame} {q : Addr} {k n : Nat} (h1 : cells ≤ k) (h2 : slots ≤ n) (kk : vx_W p l e R s m args below meth c H locs k n Q g q) : vx_W p l e R s m args below meth c H locs cells slots Q g q := fun T hT X => kk T hT (stand_widen X h1 h2)
theorem vx_out {pc : Nat} {E : String} {ce : Cell} {q : Addr} {mc ms : Nat} (hout : ∀ x ∈ c.exceptionTable.toList, covers x pc = false) (hlocks : meth.locks = false) (hcell : H[q]? = some ce) (hv : ce.vm = .none) (hcl : s.vm.findClass E = some ce.cls)
    (hx : ∀ t : State, t.heap = H → s.vm.Alike t.vm → XC E s t) (hf : ∀ z ∈ locs, free z.base) (hc : cells ≤ mc) (hs : slots ≤ ms) :
    vx_W p l e R s m args below meth c H locs cells slots (vx_MQ below Qc XC args s mc ms free) (F0 m pc ls rest) q := by
  intro T hT X
  obtain ⟨st1, hrun, hend, hW, hsm⟩ := X.leaveThrown q (g := F0 m pc ls rest) rfl rfl rfl hout hlocks
  have hcell9 : (T.setFrames (.throwing q :: below)).heap[q]? = some ce := by
    show T.heap[q]? = some ce
    rw [hT]; exact hcell
  exact ⟨_, st1, .threw q, hrun, hend, Or.inr ⟨q, rfl, E, ce, locs, hx _ hT hW.alike, hcell9, hv, hcl, hW, hsm.mono hc hs, hf⟩⟩
theorem vx_frame {U : State} {k n : Nat} (h : s.sameButNew ({ U with vm := s.vm } : State) locs k n) : s.heap.size ≤ U.heap.size ∧ ∀ q : Nat, q < s.heap.size → (∀ z ∈ locs, z.base ≠ q) → U.heap[q]? = s.heap[q]? := by
  obtain ⟨-, h2, -, -, -, h6⟩ := h
  refine ⟨h2, fun q hq hz => ?_⟩
  obtain ⟨c9, e1, e2, e3, e4⟩ := h6 q _ (Array.getElem?_eq_getElem hq)
  have hs : c9.slots = (s.heap[q]).slots := Array.ext_getElem? fun i => e4 i fun hm => hz _ hm rfl
  have h9 : c9 = s.heap[q] := by
    rw [hs] at e2
    exact e2
  have e5 : U.heap[q]? = some c9 := e1
  rw [e5, h9, Array.getElem?_eq_getElem hq]
/-- the words of a throw but the four that speak of the heap -/
def vx_no (w : Cond) : Bool := decide (w ≠ .isRef (.static Bundle.tN "UNASSIGNED_STACK" Bundle.steD)) && decide (w ≠ .isRef (.static Bundle.tN "SUPPRESSED_SENTINEL" Bundle.listD)) && decide (w ≠ .laysStatic Bundle.tN "UNASSIGNED_STACK" Bundle.steD) && decide (w ≠ .laysStatic Bundle.tN "SUPPRESSED_SENTINEL" Bundle.listD)
def vx_at0 (own : String) (ic : Nat) (X : String) (names : List String) : List Cond := (Bundle.ownAtoms0 own ic X names).filter vx_no
def vx_atS (own : String) (ic : Nat) (X : String) (names : List String) : List Cond := (Bundle.ownAtoms own ic X names).filter vx_no
/-- a word that the tables alone decide, or a good one -/
def vx_ot (w : Cond) : Bool := w.onTables || goodWord w
theorem vx_ot_at {args a' : Array Value} {s U : State} {w : Cond} (hW : s.WarmedH U.vm) (hvm : s.vm = U.vm) (hg : vx_ot w = true) (h : w.before args s = true) : w.before a' U = true := by
  simp only [vx_ot, Bool.or_eq_true] at hg
  rcases hg with hg | hg
  · exact va_tabs hg hvm h
  · exact word_at hW (good_of_word hg) h
/-- a list's words: the good ones out of the method's own list, the others by premises of their own -/
theorem vx_hat {args : Array Value} {s : State} {L B : List Cond} (h1 : ∀ w ∈ L.filter goodWord, w.before args s = true) (h2 : ∀ w ∈ L.filter (fun w => !goodWord w), w ∈ B) (h3 : ∀ w ∈ B, w.before args s = true) : ∀ w ∈ L, w.before args s = true := by
  intro w hw
  by_cases g : goodWord w = true
  · exact h1 w (List.mem_filter.mpr ⟨hw, g⟩)
  · refine h3 w (h2 w (List.mem_filter.mpr ⟨hw, ?_⟩))
    show (!goodWord w) = true
    cases hgw : goodWord w
    · rfl
    · exact absurd hgw g
theorem vx_c {args : Array Value} {s : State} {w : Cond} {B : List Cond} (h : w.before args s = true) (t : ∀ w ∈ B, w.before args s = true) : ∀ w' ∈ w :: B, w'.before args s = true := fun w' h' => (List.mem_cons.mp h').elim (fun e => by rw [e]; exact h) (t w')
theorem vx_n {args : Array Value} {s : State} : ∀ w ∈ ([] : List Cond), w.before args s = true := fun _ h => nomatch h
theorem vx_own {args : Array Value} {s : State} {L : List Cond} (h1 : ∀ w ∈ L.filter vx_no, w.before args s = true)
    (hU : (Cond.isRef (.static Bundle.tN "UNASSIGNED_STACK" Bundle.steD)).before args s = true) (hN : (Cond.isRef (.static Bundle.tN "SUPPRESSED_SENTINEL" Bundle.listD)).before args s = true)
    (lU : (Cond.laysStatic Bundle.tN "UNASSIGNED_STACK" Bundle.steD).before args s = true) (lN : (Cond.laysStatic Bundle.tN "SUPPRESSED_SENTINEL" Bundle.listD).before args s = true) : ∀ w ∈ L, w.before args s = true := by
  intro w hw
  by_cases e1 : w = .isRef (.static Bundle.tN "UNASSIGNED_STACK" Bundle.steD)
  · rw [e1]; exact hU
  · by_cases e2 : w = .isRef (.static Bundle.tN "SUPPRESSED_SENTINEL" Bundle.listD)
    · rw [e2]; exact hN
    · by_cases e3 : w = .laysStatic Bundle.tN "UNASSIGNED_STACK" Bundle.steD
      · rw [e3]; exact lU
      · by_cases e4 : w = .laysStatic Bundle.tN "SUPPRESSED_SENTINEL" Bundle.listD
        · rw [e4]; exact lN
        · exact h1 w (List.mem_filter.mpr ⟨hw, by unfold vx_no; rw [decide_eq_true e1, decide_eq_true e2, decide_eq_true e3, decide_eq_true e4]; rfl⟩)
/-- where a static field lies, its class's statics cell in H -/
def vx_L (C n d : String) (A : Nat → Prop) (U : State) (H : Heap) : Prop := ∃ (c : ClassId) (k : Class) (i : Nat) (f : Field) (a : Nat) (cell : Cell), U.vm.findClass C = some c ∧ U.fieldFound? C n d = some (c, k, i, f) ∧ f.isStatic = true ∧ k.statics = some a ∧ H[a]? = some cell ∧ cell.vm.isStatics = true ∧ cell.cls = c ∧ f.slot < cell.slots.size ∧ k.staticTypes[f.slot]? = some f.type ∧ ¬ A a
theorem vx_L.moved {C n d : String} {A : Nat → Prop} {u U : State} {H : Heap} (hvm : u.vm.Alike U.vm) (h : vx_L C n d A u H) : vx_L C n d A U H := by
  obtain ⟨c, k, i, f, a, cell, h1, h2, h3, h4, h5, h6, h7, h8, h9, h10⟩ := h
  obtain ⟨k', hi', he⟩ := State.fieldFound?_setVm hvm h2
  exact ⟨c, k', i, f, a, cell, by rw [hvm.findClass]; exact h1, hi', h3, by rw [he]; exact h4, h5, h6, h7, h8, by rw [he]; exact h9, h10⟩
theorem vx_L.kept {C n d : String} {A : Nat → Prop} {U : State} {H H1 : Heap} (h : vx_L C n d A U H) (hq : ∀ a : Nat, a < H.size → ¬ A a → H1[a]? = H[a]?) : vx_L C n d A U H1 := by
  obtain ⟨c, k, i, f, a, cell, h1, h2, h3, h4, h5, h6, h7, h8, h9, h10⟩ := h
  exact ⟨c, k, i, f, a, cell, h1, h2, h3, h4, by rw [hq a (Array.getElem?_eq_some_iff.mp h5).1 h10]; exact h5, h6, h7, h8, h9, h10⟩
theorem vx_L.narrow {C n d : String} {A B : Nat → Prop} {U : State} {H : Heap} (h : vx_L C n d A U H) (hAB : ∀ q, B q → A q) : vx_L C n d B U H := by
  obtain ⟨c, k, i, f, a, cell, h1, h2, h3, h4, h5, h6, h7, h8, h9, h10⟩ := h
  exact ⟨c, k, i, f, a, cell, h1, h2, h3, h4, h5, h6, h7, h8, h9, fun z => h10 (hAB _ z)⟩
theorem vx_L.word {C n d : String} {A : Nat → Prop} {s : State} {args : Array Value} (h : vx_L C n d A s s.heap) : (Cond.laysStatic C n d).before args s = true := by
  obtain ⟨c, k, i, f, a, cell, h1, h2, h3, h4, h5, h6, h7, h8, h9, -⟩ := h
  show (Cond.laysStatic C n d).holds args s none s [] = true
  exact Cond.laysStatic_of h1 h2 h3 h4 h5 h6 h7 h8 h9
/-- .. and what it holds: null or some reference -/
def vx_Zq (C n d : String) (A : Nat → Prop) (U : State) (H : Heap) : Prop := va_Zq C n d A U H ∧ vx_L C n d A U H
theorem vx_Zq.moved {C n d : String} {A : Nat → Prop} {u U : State} {H : Heap} (hvm : u.vm.Alike U.vm) (h : vx_Zq C n d A u H) : vx_Zq C n d A U H := ⟨va_Zq.moved hvm h.1, vx_L.moved hvm h.2⟩
theorem vx_Zq.kept {C n d : String} {A : Nat → Prop} {U : State} {H H1 : Heap} (h : vx_Zq C n d A U H) (hq : ∀ a : Nat, a < H.size → ¬ A a → H1[a]? = H[a]?) : vx_Zq C n d A U H1 := ⟨va_Zq.kept h.1 hq, vx_L.kept h.2 hq⟩
theorem vx_Zq.narrow {C n d : String} {A B : Nat → Prop} {U : State} {H : Heap} (h : vx_Zq C n d A U H) (hAB : ∀ q, B q → A q) : vx_Zq C n d B U H := ⟨va_Zq.narrow h.1 hAB, vx_L.narrow h.2 hAB⟩
theorem vx_Zqof {args : Array Value} {s : State} {C n d : String} {A : Nat → Prop} (hl : (Cond.laysStatic C n d).before args s = true) (hini : (Cond.initialized C).before args s = true) (h : (Cond.isRef (.static C n d)).before args s = true) (hA : ∀ a : Nat, a < s.heap.size → ¬ A a) : vx_Zq C n d A s s.heap := by
  refine ⟨va_Zqof hl hini h hA, ?_⟩
  obtain ⟨c, k, i, f, a, cell, h1, h2, h3, h4, h5, h6, h7, h8, h9⟩ := Cond.laysStatic_spec hl
  exact ⟨c, k, i, f, a, cell, h1, h2, h3, h4, h5, h6, h7, h8, h9, hA a (Array.getElem?_eq_some_iff.mp h5).1⟩
theorem vx_isRef {C n d : String} {v : Value} {A : Nat → Prop} {s : State} {args : Array Value} (h : va_Z C n d v A s s.heap) (hv : v.isRef = true) : (Cond.isRef (.static C n d)).before args s = true := by
  obtain ⟨cf, kf, fi, f, a, cell, h1, h2, h3, h4, h5, h6, h7, -⟩ := h
  have he : (Term.static C n d).eval args s none [] s = some v := by
    simp [Term.eval, State.fieldNamed?, h1, h2, h4, h5, h6, h7]
  simp only [Cond.before, Cond.holds, Cond.value, he]
  cases v <;> simp_all [Value.isRef]
theorem vx_isRefq {C n d : String} {A : Nat → Prop} {s : State} {args : Array Value} (h : va_Zq C n d A s s.heap) : (Cond.isRef (.static C n d)).before args s = true := by
  rcases h with h | ⟨t, h⟩
  · exact vx_isRef h rfl
  · exact vx_isRef h rfl
/-- the same frame, seen from here: as if the method were called anew in this heap -/
theorem vx_rebase {T : State} (X : Stand p l e R s m args below meth c T locs cells slots) {R' : Room} (hf : R'.frames ≤ R.frames) (hl : R'.locals ≤ R.locals) (hc : cells + R'.cells ≤ R.cells) (hs : slots + R'.slots ≤ R.slots) :
    Stand p l e R' ((T.setVm s.vm).setFrames (.invoking m args :: below)) m args below meth c T [] 0 0 := by
  have htop : (T.setVm s.vm).topJava?.isSome := X.here.top
  have hF : ((T.setVm s.vm).setFrames (.invoking m args :: below)).frames = .invoking m args :: below := State.frames_setFrames _ (State.cur_lt_of_top htop)
  obtain ⟨g₀, hg0⟩ := Option.isSome_iff_exists.mp htop
  obtain ⟨r, hr⟩ := State.topJava?_eq_some.mp hg0
  have hl9 : e.platform.stackLimits (T.setVm s.vm).me = e.platform.stackLimits s.me := X.limits
  have hb9 : (T.setVm s.vm).me.stackBytes = s.me.stackBytes := X.bytes
  refine ⟨X.admits, X.cas, X.clock, hF, ?_, X.hears, X.method, X.code, X.here, X.tail, X.warmed, ?_, ?_, ?_⟩
  · have h := X.room
    have hU : ((T.setVm s.vm).setFrames (.invoking m args :: below)).localsInUse = s.localsInUse := by
      rw [State.localsInUse_invoking hF (meth := meth) (c := c) X.method X.code, State.localsInUse_invoking X.frames X.method X.code]
    simp only [State.hasRoom, Bool.and_eq_true, decide_eq_true_eq] at h ⊢
    obtain ⟨⟨⟨⟨h1, h2, h3, h4, h5, h6⟩, h7⟩, h8⟩, h9⟩ := h
    rw [X.frames, List.length_cons] at h2 h3
    have q1 := X.heapSize
    have q2 := X.used
    simp only [hF, hU, List.length_cons, State.stackLimits_setFrames, State.stackBytes_setFrames, hl9, hb9]
    refine ⟨⟨⟨⟨by omega, by omega, by omega, by omega, by omega, h6⟩, ?_⟩, ?_⟩, X.book⟩
    · show T.heap.size + R'.cells ≤ e.platform.maxCells
      omega
    · show T.slotsUsed + R'.slots ≤ e.platform.maxSlots
      omega
  · rw [State.stackLimits_setFrames]; rfl
  · rw [State.stackBytes_setFrames]; rfl
  · refine ⟨?_, Nat.le_refl _, Nat.le_refl _, ?_, ?_, fun a c9 h9 => ⟨c9, h9, rfl, rfl, fun _ _ => rfl⟩⟩
    · obtain ⟨t, ht, -⟩ := State.frames_cons hr
      show T.setVm s.vm = { ((T.setVm s.vm).setFrames (.invoking m args :: below)).setFrames (T.setVm s.vm).frames with heap := T.heap, slotsUsed := T.slotsUsed }
      rw [State.setFrames_setFrames, State.setFrames_self ht]
      rfl
    · show T.slotsUsed = T.slotsUsed + ((T.heap.toList.drop T.heap.size).map (·.slots.size)).sum
      rw [List.drop_eq_nil_of_le (Nat.le_of_eq Array.length_toList)]
      rfl
    · show ((T.heap.toList.drop T.heap.size).map (·.slots.size)).sum ≤ 0
      rw [List.drop_eq_nil_of_le (Nat.le_of_eq Array.length_toList)]
      exact Nat.le_refl _
/-- 'throw new E()': new; dup; invokespecial; athrow -/
theorem vx_throw0 {cc : ByteArray} {pc : Nat} (hexec : p.tables.exec = Jvm.exec) (hb : c.code = cc) (hl : l.stackTraces = false) {own cls : String} {names : List String} {ik ic mc ms : Nat} {A : Nat → Prop}
    (hown : s.vm.findClass own = some m.cls) (hcls : Bundle.fit cls = true) (hnames : ∀ n ∈ names, Bundle.fit n = true)
    (hk : (Cond.classLink own ik cls).before args s = true) (hini : (Cond.initialized cls).before args s = true) (hat : ∀ w ∈ vx_at0 own ic cls names, w.before args s = true)
    (hgood : ∀ w ∈ Cond.classLink own ik cls :: Cond.initialized cls :: vx_at0 own ic cls names, vx_ot w = true)
    (hU : vx_Zq Bundle.tN "UNASSIGNED_STACK" Bundle.steD A s s.heap) (hN : vx_Zq Bundle.tN "SUPPRESSED_SENTINEL" Bundle.listD A s s.heap) (hS : va_S A s.heap H locs) (hsize : ls.size = c.maxLocals)
    (d0 : decode cc pc = .ok (.new ik, 3)) (d3 : decode cc (pc + 3) = .ok (.dup, 1)) (d4 : decode cc (pc + 4) = .ok (.invokespecial ic, 3)) (d7 : decode cc (pc + 7) = .ok (.athrow, 1))
    (hout : ∀ x ∈ c.exceptionTable.toList, covers x (pc + 7) = false)
    (hRframes : names.length + 3 < R.frames) (hRlocals : (rest.map fun v => v.category).sum + (13 * (names.length + 1) + 42) ≤ R.locals) (hRcells : cells + 1 ≤ R.cells) (hRslots : slots + 6 ≤ R.slots) (hlocks : meth.locks = false)
    (hx : ∀ t : State, s.vm.Alike t.vm → H.size ≤ t.heap.size → (∀ q : Nat, q < H.size → t.heap[q]? = H[q]?) → XC cls s t)
    (hf : ∀ z ∈ locs, free z.base) (hc : cells + 1 ≤ mc) (hs : slots + 6 ≤ ms) :
    W p l e R s m args below meth c H locs cells slots (vx_MQ below Qc XC args s mc ms free) (F0 m pc ls rest) := by
  intro T hT X
  have htr : e.platform.stackTraces = false := (show e.platform.stackTraces = l.stackTraces by rw [X.admits.platform]).trans hl
  have Y := vx_rebase X (R' := { frames := R.frames, locals := R.locals, cells := 1, slots := 6 }) (Nat.le_refl _) (Nat.le_refl _) hRcells hRslots
  obtain ⟨s', hA⟩ : ∃ z, z = (T.setVm s.vm).setFrames (.invoking m args :: below) := ⟨_, rfl⟩
  rw [← hA] at Y
  have hvm : s'.vm = s.vm := by rw [hA]; rfl
  have hhp : s'.heap = H := by rw [hA]; exact hT
  have hW0 : s.WarmedH s'.vm := by rw [hvm]; exact State.WarmedH.refl s
  have hat' : ∀ w ∈ vx_at0 own ic cls names, w.before args s' = true := fun w hw => vx_ot_at hW0 hvm.symm (hgood w (List.mem_cons_of_mem _ (List.mem_cons_of_mem _ hw))) (hat w hw)
  have hk' : (Cond.classLink own ik cls).before args s' = true := vx_ot_at hW0 hvm.symm (hgood _ List.mem_cons_self) hk
  have hini' : (Cond.initialized cls).before args s' = true := vx_ot_at hW0 hvm.symm (hgood _ (List.mem_cons_of_mem _ List.mem_cons_self)) hini
  have hU' : vx_Zq Bundle.tN "UNASSIGNED_STACK" Bundle.steD A s' s'.heap := by rw [hhp]; exact vx_Zq.moved hW0.alike (hU.kept hS.2.1)
  have hN' : vx_Zq Bundle.tN "SUPPRESSED_SENTINEL" Bundle.listD A s' s'.heap := by rw [hhp]; exact vx_Zq.moved hW0.alike (hN.kept hS.2.1)
  have h : ∀ w ∈ Bundle.ownAtoms0 own ic cls names, w.before args s' = true := vx_own hat' (vx_isRefq hU'.1) (vx_isRefq hN'.1) hU'.2.word hN'.2.word
  have hown' : s'.vm.findClass own = some m.cls := by rw [hvm]; exact hown
  have hins : (Cond.instantiable cls 6).before args s' = true := h _ (by simp [Bundle.ownAtoms0])
  obtain ⟨vm₁, cX, kX, hfX, hkX, -, -, X₁, st1⟩ := Y.newCold hexec (own := own) (C := cls) (index := ik) (n := 6) hown' hk' hins hini'
    (g := F0 m pc ls rest) rfl (by rw [hb]; exact d0) (Nat.le_refl _) (Nat.le_refl _)
  generalize hT1 : (T.setVm vm₁).pushCell { cls := cX, slots := kX.instanceTypes.map defaultValue, vm := .none } = T1 at X₁ st1
  have hcat : (Value.ref T.heap.size).category = 1 := rfl
  have hcellA : T1.heap[T.heap.size]? = some (freshCell cX kX) := by rw [← hT1]; exact State.heap_pushCell_size _ _
  have d3' : decode c.code (pc + 3) = .ok (.dup, 1) := by rw [hb]; exact d3
  obtain ⟨U, hsteps, hrun, hend, hW, hsame, ce, hce, hO⟩ := X₁.ctorThrow0 hexec htr (own := own) (cls := cls) (names := names) (ic := ic) hown' hcls hnames h (fun x hx => nomatch hx) hfX hkX hcellA (by rw [hhp, hT]; exact Nat.le_refl _)
    (g := { method := m, pc := pc + 4, locals := ls, stack := .ref T.heap.size :: .ref T.heap.size :: rest, locked := none }) rfl hsize rfl rfl (rest := rest) rfl
    (by rw [hb]; exact d4) (by rw [hb]; exact d7) hout hRframes (by simp only [List.map_cons, List.sum_cons, hcat]; omega) hlocks
  obtain ⟨f1, f2⟩ := vx_frame hsame
  rw [hhp] at f1 f2
  have hWs : s.WarmedH U.vm := State.WarmedH.trans hW0 hW
  have hcl : s.vm.findClass cls = some ce.cls := by
    have h9 := hO.cls
    rw [hvm] at h9
    exact h9
  have hall : s.sameButNew ({ U with vm := s.vm } : State) locs mc ms := by
    subst hA
    obtain ⟨e1, e2⟩ := hsame
    rw [State.setFrames_setFrames] at e1
    have h2 : (T.setVm s.vm).sameButNew ({ U with vm := s.vm } : State) [] (0 + 1) (0 + 6) := ⟨e1, e2⟩
    have h3 := X.same.trans h2
    rw [List.append_nil] at h3
    exact h3.mono hc hs
  refine ⟨U, ?_, .threw T.heap.size, hrun, hend, Or.inr ⟨T.heap.size, rfl, cls, ce, locs, hx U hWs.alike f1 (fun q hq => f2 q hq (fun z hz => nomatch hz)), hce, hO.vm, hcl, hWs, hall, hf⟩⟩
  refine st1 _ ?_
  show Steps p.tables e below (T1.setTop { method := m, pc := pc + 3, locals := ls, stack := .ref T.heap.size :: rest, locked := none }) _
  jvm_step X₁.here [X₁.here.top, hexec, d3', Value.category]
  exact hsteps
/-- 'throw new E("text")': new; dup; ldc; invokespecial; athrow -/
theorem vx_throwS {cc : ByteArray} {pc : Nat} (hexec : p.tables.exec = Jvm.exec) (hb : c.code = cc) (hl : l.stackTraces = false) {own cls text : String} {names : List String} {ik is ic mc ms sa : Nat} {A : Nat → Prop}
    (hown : s.vm.findClass own = some m.cls) (hcls : Bundle.fit cls = true) (hnames : ∀ n ∈ names, Bundle.fit n = true)
    (hk : (Cond.classLink own ik cls).before args s = true) (hini : (Cond.initialized cls).before args s = true) (hstr : vk_R own is text sa s) (hat : ∀ w ∈ vx_atS own ic cls names, w.before args s = true)
    (hgood : ∀ w ∈ Cond.classLink own ik cls :: Cond.initialized cls :: vx_atS own ic cls names, vx_ot w = true)
    (hU : vx_Zq Bundle.tN "UNASSIGNED_STACK" Bundle.steD A s s.heap) (hN : vx_Zq Bundle.tN "SUPPRESSED_SENTINEL" Bundle.listD A s s.heap) (hS : va_S A s.heap H locs) (hsize : ls.size = c.maxLocals)
    (d0 : decode cc pc = .ok (.new ik, 3)) (d3 : decode cc (pc + 3) = .ok (.dup, 1)) (d4 : decode cc (pc + 4) = .ok (.ldc is, 2)) (d6 : decode cc (pc + 6) = .ok (.invokespecial ic, 3)) (d9 : decode cc (pc + 9) = .ok (.athrow, 1))
    (hout : ∀ x ∈ c.exceptionTable.toList, covers x (pc + 9) = false)
    (hRframes : names.length + 3 < R.frames) (hRlocals : (rest.map fun v => v.category).sum + (13 * (names.length + 1) + 43) ≤ R.locals) (hRcells : cells + 1 ≤ R.cells) (hRslots : slots + 6 ≤ R.slots) (hlocks : meth.locks = false)
    (hx : ∀ t : State, s.vm.Alike t.vm → H.size ≤ t.heap.size → (∀ q : Nat, q < H.size → t.heap[q]? = H[q]?) → XC cls s t)
    (hf : ∀ z ∈ locs, free z.base) (hc : cells + 1 ≤ mc) (hs : slots + 6 ≤ ms) :
    W p l e R s m args below meth c H locs cells slots (vx_MQ below Qc XC args s mc ms free) (F0 m pc ls rest) := by
  intro T hT X
  have htr : e.platform.stackTraces = false := (show e.platform.stackTraces = l.stackTraces by rw [X.admits.platform]).trans hl
  have Y := vx_rebase X (R' := { frames := R.frames, locals := R.locals, cells := 1, slots := 6 }) (Nat.le_refl _) (Nat.le_refl _) hRcells hRslots
  obtain ⟨s', hA⟩ : ∃ z, z = (T.setVm s.vm).setFrames (.invoking m args :: below) := ⟨_, rfl⟩
  rw [← hA] at Y
  have hvm : s'.vm = s.vm := by rw [hA]; rfl
  have hhp : s'.heap = H := by rw [hA]; exact hT
  have hW0 : s.WarmedH s'.vm := by rw [hvm]; exact State.WarmedH.refl s
  have hat' : ∀ w ∈ vx_atS own ic cls names, w.before args s' = true := fun w hw => vx_ot_at hW0 hvm.symm (hgood w (List.mem_cons_of_mem _ (List.mem_cons_of_mem _ hw))) (hat w hw)
  have hk' : (Cond.classLink own ik cls).before args s' = true := vx_ot_at hW0 hvm.symm (hgood _ List.mem_cons_self) hk
  have hini' : (Cond.initialized cls).before args s' = true := vx_ot_at hW0 hvm.symm (hgood _ (List.mem_cons_of_mem _ List.mem_cons_self)) hini
  have hU' : vx_Zq Bundle.tN "UNASSIGNED_STACK" Bundle.steD A s' s'.heap := by rw [hhp]; exact vx_Zq.moved hW0.alike (hU.kept hS.2.1)
  have hN' : vx_Zq Bundle.tN "SUPPRESSED_SENTINEL" Bundle.listD A s' s'.heap := by rw [hhp]; exact vx_Zq.moved hW0.alike (hN.kept hS.2.1)
  have h : ∀ w ∈ Bundle.ownAtoms own ic cls names, w.before args s' = true := vx_own hat' (vx_isRefq hU'.1) (vx_isRefq hN'.1) hU'.2.word hN'.2.word
  have hown' : s'.vm.findClass own = some m.cls := by rw [hvm]; exact hown
  have hins : (Cond.instantiable cls 6).before args s' = true := h _ (by simp [Bundle.ownAtoms])
  obtain ⟨vm₁, cX, kX, hfX, hkX, -, -, X₁, st1⟩ := Y.newCold hexec (own := own) (C := cls) (index := ik) (n := 6) hown' hk' hins hini'
    (g := F0 m pc ls rest) rfl (by rw [hb]; exact d0) (Nat.le_refl _) (Nat.le_refl _)
  generalize hT1 : (T.setVm vm₁).pushCell { cls := cX, slots := kX.instanceTypes.map defaultValue, vm := .none } = T1 at X₁ st1
  have hcat : (Value.ref T.heap.size).category = 1 := rfl
  have hcellA : T1.heap[T.heap.size]? = some (freshCell cX kX) := by rw [← hT1]; exact State.heap_pushCell_size _ _
  have d3' : decode c.code (pc + 3) = .ok (.dup, 1) := by rw [hb]; exact d3
  have d4' : decode c.code (pc + 4) = .ok (.ldc is, 2) := by rw [hb]; exact d4
  have hstr' : vk_R own is text sa s' := vk_R.warm hW0 hstr
  obtain ⟨U, hsteps, hrun, hend, hW, hsame, ce, hce, hO⟩ := X₁.ctorThrowS hexec htr (own := own) (cls := cls) (names := names) (ic := ic) hown' hcls hnames h (fun x hx => nomatch hx) hfX hkX hcellA (by rw [hhp, hT]; exact Nat.le_refl _) (msg := .ref sa) rfl
    (g := { method := m, pc := pc + 6, locals := ls, stack := .ref sa :: .ref T.heap.size :: .ref T.heap.size :: rest, locked := none }) rfl hsize rfl rfl (rest := rest) rfl
    (by rw [hb]; exact d6) (by rw [hb]; exact d9) hout hRframes (by simp only [List.map_cons, List.sum_cons, hcat]; omega) hlocks
  obtain ⟨f1, f2⟩ := vx_frame hsame
  rw [hhp] at f1 f2
  have hWs : s.WarmedH U.vm := State.WarmedH.trans hW0 hW
  have hcl : s.vm.findClass cls = some ce.cls := by
    have h9 := hO.cls
    rw [hvm] at h9
    exact h9
  have hall : s.sameButNew ({ U with vm := s.vm } : State) locs mc ms := by
    subst hA
    obtain ⟨e1, e2⟩ := hsame
    rw [State.setFrames_setFrames] at e1
    have h2 : (T.setVm s.vm).sameButNew ({ U with vm := s.vm } : State) [] (0 + 1) (0 + 6) := ⟨e1, e2⟩
    have h3 := X.same.trans h2
    rw [List.append_nil] at h3
    exact h3.mono hc hs
  refine ⟨U, ?_, .threw T.heap.size, hrun, hend, Or.inr ⟨T.heap.size, rfl, cls, ce, locs, hx U hWs.alike f1 (fun q hq => f2 q hq (fun z hz => nomatch hz)), hce, hO.vm, hcl, hWs, hall, hf⟩⟩
  refine st1 _ ?_
  show Steps p.tables e below (T1.setTop { method := m, pc := pc + 3, locals := ls, stack := .ref T.heap.size :: rest, locked := none }) _
  jvm_step X₁.here [X₁.here.top, hexec, d3', Value.category]
  exact X₁.ldcString hexec (own := own) (text := text) (index := is) (a := sa) hown' hstr'.1 hstr'.2
    (g := { method := m, pc := pc + 4, locals := ls, stack := .ref T.heap.size :: .ref T.heap.size :: rest, locked := none }) rfl d4' _ hsteps
/-- 'throw new E("text")', the text by a wide index -/
theorem vx_throwSW {cc : ByteArray} {pc : Nat} (hexec : p.tables.exec = Jvm.exec) (hb : c.code = cc) (hl : l.stackTraces = false) {own cls text : String} {names : List String} {ik is ic mc ms sa : Nat} {A : Nat → Prop}
    (hown : s.vm.findClass own = some m.cls) (hcls : Bundle.fit cls = true) (hnames : ∀ n ∈ names, Bundle.fit n = true)
    (hk : (Cond.classLink own ik cls).before args s = true) (hini : (Cond.initialized cls).before args s = true) (hstr : vk_R own is text sa s) (hat : ∀ w ∈ vx_atS own ic cls names, w.before args s = true)
    (hgood : ∀ w ∈ Cond.classLink own ik cls :: Cond.initialized cls :: vx_atS own ic cls names, vx_ot w = true)
    (hU : vx_Zq Bundle.tN "UNASSIGNED_STACK" Bundle.steD A s s.heap) (hN : vx_Zq Bundle.tN "SUPPRESSED_SENTINEL" Bundle.listD A s s.heap) (hS : va_S A s.heap H locs) (hsize : ls.size = c.maxLocals)
    (d0 : decode cc pc = .ok (.new ik, 3)) (d3 : decode cc (pc + 3) = .ok (.dup, 1)) (d4 : decode cc (pc + 4) = .ok (.ldc_w is, 3)) (d7 : decode cc (pc + 7) = .ok (.invokespecial ic, 3)) (d10 : decode cc (pc + 10) = .ok (.athrow, 1))
    (hout : ∀ x ∈ c.exceptionTable.toList, covers x (pc + 10) = false)
    (hRframes : names.length + 3 < R.frames) (hRlocals : (rest.map fun v => v.category).sum + (13 * (names.length + 1) + 43) ≤ R.locals) (hRcells : cells + 1 ≤ R.cells) (hRslots : slots + 6 ≤ R.slots) (hlocks : meth.locks = false)
    (hx : ∀ t : State, s.vm.Alike t.vm → H.size ≤ t.heap.size → (∀ q : Nat, q < H.size → t.heap[q]? = H[q]?) → XC cls s t)
    (hf : ∀ z ∈ locs, free z.base) (hc : cells + 1 ≤ mc) (hs : slots + 6 ≤ ms) :
    W p l e R s m args below meth c H locs cells slots (vx_MQ below Qc XC args s mc ms free) (F0 m pc ls rest) := by
  intro T hT X
  have htr : e.platform.stackTraces = false := (show e.platform.stackTraces = l.stackTraces by rw [X.admits.platform]).trans hl
  have Y := vx_rebase X (R' := { frames := R.frames, locals := R.locals, cells := 1, slots := 6 }) (Nat.le_refl _) (Nat.le_refl _) hRcells hRslots
  obtain ⟨s', hA⟩ : ∃ z, z = (T.setVm s.vm).setFrames (.invoking m args :: below) := ⟨_, rfl⟩
  rw [← hA] at Y
  have hvm : s'.vm = s.vm := by rw [hA]; rfl
  have hhp : s'.heap = H := by rw [hA]; exact hT
  have hW0 : s.WarmedH s'.vm := by rw [hvm]; exact State.WarmedH.refl s
  have hat' : ∀ w ∈ vx_atS own ic cls names, w.before args s' = true := fun w hw => vx_ot_at hW0 hvm.symm (hgood w (List.mem_cons_of_mem _ (List.mem_cons_of_mem _ hw))) (hat w hw)
  have hk' : (Cond.classLink own ik cls).before args s' = true := vx_ot_at hW0 hvm.symm (hgood _ List.mem_cons_self) hk
  have hini' : (Cond.initialized cls).before args s' = true := vx_ot_at hW0 hvm.symm (hgood _ (List.mem_cons_of_mem _ List.mem_cons_self)) hini
  have hU' : vx_Zq Bundle.tN "UNASSIGNED_STACK" Bundle.steD A s' s'.heap := by rw [hhp]; exact vx_Zq.moved hW0.alike (hU.kept hS.2.1)
  have hN' : vx_Zq Bundle.tN "SUPPRESSED_SENTINEL" Bundle.listD A s' s'.heap := by rw [hhp]; exact vx_Zq.moved hW0.alike (hN.kept hS.2.1)
  have h : ∀ w ∈ Bundle.ownAtoms own ic cls names, w.before args s' = true := vx_own hat' (vx_isRefq hU'.1) (vx_isRefq hN'.1) hU'.2.word hN'.2.word
  have hown' : s'.vm.findClass own = some m.cls := by rw [hvm]; exact hown
  have hins : (Cond.instantiable cls 6).before args s' = true := h _ (by simp [Bundle.ownAtoms])
  obtain ⟨vm₁, cX, kX, hfX, hkX, -, -, X₁, st1⟩ := Y.newCold hexec (own := own) (C := cls) (index := ik) (n := 6) hown' hk' hins hini'
    (g := F0 m pc ls rest) rfl (by rw [hb]; exact d0) (Nat.le_refl _) (Nat.le_refl _)
  generalize hT1 : (T.setVm vm₁).pushCell { cls := cX, slots := kX.instanceTypes.map defaultValue, vm := .none } = T1 at X₁ st1
  have hcat : (Value.ref T.heap.size).category = 1 := rfl
  have hcellA : T1.heap[T.heap.size]? = some (freshCell cX kX) := by rw [← hT1]; exact State.heap_pushCell_size _ _
  have d3' : decode c.code (pc + 3) = .ok (.dup, 1) := by rw [hb]; exact d3
  have d4' : decode c.code (pc + 4) = .ok (.ldc_w is, 3) := by rw [hb]; exact d4
  have hstr' : vk_R own is text sa s' := vk_R.warm hW0 hstr
  obtain ⟨U, hsteps, hrun, hend, hW, hsame, ce, hce, hO⟩ := X₁.ctorThrowS hexec htr (own := own) (cls := cls) (names := names) (ic := ic) hown' hcls hnames h (fun x hx => nomatch hx) hfX hkX hcellA (by rw [hhp, hT]; exact Nat.le_refl _) (msg := .ref sa) rfl
    (g := { method := m, pc := pc + 7, locals := ls, stack := .ref sa :: .ref T.heap.size :: .ref T.heap.size :: rest, locked := none }) rfl hsize rfl rfl (rest := rest) rfl
    (by rw [hb]; exact d7) (by rw [hb]; exact d10) hout hRframes (by simp only [List.map_cons, List.sum_cons, hcat]; omega) hlocks
  obtain ⟨f1, f2⟩ := vx_frame hsame
  rw [hhp] at f1 f2
  have hWs : s.WarmedH U.vm := State.WarmedH.trans hW0 hW
  have hcl : s.vm.findClass cls = some ce.cls := by
    have h9 := hO.cls
    rw [hvm] at h9
    exact h9
  have hall : s.sameButNew ({ U with vm := s.vm } : State) locs mc ms := by
    subst hA
    obtain ⟨e1, e2⟩ := hsame
    rw [State.setFrames_setFrames] at e1
    have h2 : (T.setVm s.vm).sameButNew ({ U with vm := s.vm } : State) [] (0 + 1) (0 + 6) := ⟨e1, e2⟩
    have h3 := X.same.trans h2
    rw [List.append_nil] at h3
    exact h3.mono hc hs
  refine ⟨U, ?_, .threw T.heap.size, hrun, hend, Or.inr ⟨T.heap.size, rfl, cls, ce, locs, hx U hWs.alike f1 (fun q hq => f2 q hq (fun z hz => nomatch hz)), hce, hO.vm, hcl, hWs, hall, hf⟩⟩
  refine st1 _ ?_
  show Steps p.tables e below (T1.setTop { method := m, pc := pc + 3, locals := ls, stack := .ref T.heap.size :: rest, locked := none }) _
  jvm_step X₁.here [X₁.here.top, hexec, d3', Value.category]
  exact X₁.ldcStringW hexec (own := own) (text := text) (index := is) (a := sa) hown' hstr'.1 hstr'.2
    (g := { method := m, pc := pc + 4, locals := ls, stack := .ref T.heap.size :: .ref T.heap.size :: rest, locked := none }) rfl d4' _ hsteps
end Ends
section Bodies
variable {l : Launch}
theorem vx_ofW {y : MethodName} {ws ws' : List Cond} {rm : Room} {Pc : Array Value → State → Prop} {Qc : Array Value → State → Outcome → State → Prop} {XC : String → State → State → Prop} {mc ms : Nat} {free : Addr → Prop} {cc : ByteArray} {maxL : Nat} {ret : Option FieldType}
    (hy : plainName y.cls = true) (hw : ws = Cond.code y cc maxL ret :: ws')
    (body : ∀ p e s m args below meth c s₁, BodyLoose p l y (headSpec ws rm) cc maxL ret e s m args below meth c s₁ → c.maxLocals = maxL → (∀ x ∈ c.exceptionTable.toList, False) → Pc args s →
      W p l e (headSpec ws rm).room s m args below meth c s.heap [] 0 0 (vx_MQ below Qc XC args s mc ms free) (entryFrame m args maxL)) : vx_Met l y ws rm Pc Qc XC mc ms free := by
  refine MetFree.of_bodyS (code := cc) (maxLocals := maxL) (ret := ret) hy ?_ ?_
  · intro args s m h hn
    obtain ⟨meth, c, h1, h2, h3, h4, h5, h6, -, -⟩ := Cond.code_spec hn (atoms_spec (ws := ws) h _ (by rw [hw]; exact List.mem_cons_self))
    exact ⟨meth, c, h1, h2, h3, h4, h5, h6⟩
  · intro p e s m args below meth c s₁ B hml hP _
    have hh0 : s₁.heap = s.heap := by rw [B.state]; rfl
    have ht : ∀ x ∈ c.exceptionTable.toList, False := by
      obtain ⟨meth9, c9, h1, h2, -, -, -, -, h7, -⟩ := Cond.code_spec B.named (atoms_spec (ws := ws) B.pre _ (by rw [hw]; exact List.mem_cons_self))
      cases Option.some.inj (h1.symm.trans B.method)
      cases Option.some.inj (h2.symm.trans (Stand.of_body B).code)
      intro x hx
      rw [Array.isEmpty_iff.mp h7] at hx
      cases hx
    obtain ⟨t, a1, o, b1, b2, b3⟩ := body p e s m args below meth c s₁ B hml ht hP s₁ hh0 (Stand.of_body B)
    exact ⟨t, o, a1, b1, b2, b3⟩
/-- the table of a body with handlers -/
theorem vx_table {p : Program} {x y : MethodName} {S : Spec} {cc bytes : ByteArray} {maxL maxL' : Nat} {ret ret' : Option FieldType} {e : Env} {s s₁ : State} {m : MethodId} {args : Array Value} {below : List Frame} {meth : Method} {c : Code} {hh : List (Nat × Nat × Nat × Nat)}
    (B : BodyLoose p l y S cc maxL ret e s m args below meth c s₁) (h : (Cond.codeWith y bytes maxL' ret' hh).before args s = true) : c.exceptionTable.toList = tableOf hh := by
  obtain ⟨m9, meth9, c9, hn9, h1, h2, -, -, h6, -⟩ := Cond.codeWith_spec h
  cases Option.some.inj (hn9.symm.trans B.named)
  cases Option.some.inj (h1.symm.trans B.method)
  cases Option.some.inj (h2.symm.trans (Stand.of_body B).code)
  rw [← h6, table_eq]
end Bodies
end VXA
/-! ===== END ===== -/
/-! ===== BEGIN a static call of a method with an exception table ===== -/
section VXS
variable {p : Program} {l : Launch} {e : Env} {R : Room} {s : State} {m : MethodId} {args : Array Value} {below : List Frame} {meth : Method} {c : Code} {T : State} {H : Heap} {locs : List Loc} {cells slots : Nat}
abbrev vx_CSW (R : Room) (s : State) (args : Array Value) (own : String) (index : Nat) (y : MethodName) (bytes : ByteArray) (maxL : Nat) (ret : Option FieldType) (hh : List (Nat × Nat × Nat × Nat)) (ws : List Cond) (rm : Room) (mc ms n : Nat) : Prop :=
  (rm.cells = mc ∧ rm.slots = ms ∧ rm.frames + 1 ≤ R.frames ∧ 8 + (maxL + 11) + rm.locals ≤ R.locals ∧ (∀ w ∈ ws, ∀ (a' : Array Value) (U : State), s.WarmedH U.vm → w.before a' U = true) ∧ Cond.codeWith y bytes maxL ret hh ∈ ws) ∧
  (Cond.codeWith y bytes maxL ret hh).before args s = true ∧ (Cond.initialized y.cls).before args s = true ∧ (y.cls ≠ "java/lang/invoke/MethodHandle" ∧ y.cls ≠ "java/lang/invoke/VarHandle") ∧
  (∀ sig, parseMethodDescriptor y.desc = some sig → n = sig.parameters.length) ∧ (Cond.methodLink own index y).before args s = true ∧ (Cond.static y).before args s = true
theorem vx_cwSW {own : String} {index maxL mc ms : Nat} {y : MethodName} {bytes : ByteArray} {ret : Option FieldType} {hh : List (Nat × Nat × Nat × Nat)} {Ts ws ws' : List Cond} {rm : Room} (n : Nat) (ht : ∀ w ∈ Ts, w.before args s = true) (hT : GoodIn Ts (va_wsS own index y ws)) (hw : ws = Cond.codeWith y bytes maxL ret hh :: ws') (hrc : rm.cells = mc) (hrs : rm.slots = ms)
    (hd : y.cls ≠ "java/lang/invoke/MethodHandle" ∧ y.cls ≠ "java/lang/invoke/VarHandle" ∧ (parseMethodDescriptor y.desc).map (fun d => d.parameters.length) = some n) (hR : rm.frames + 1 ≤ R.frames ∧ 8 + (maxL + 11) + rm.locals ≤ R.locals) :
    vx_CSW R s args own index y bytes maxL ret hh ws rm mc ms n := by
  have ok : ∀ w ∈ va_wsS own index y ws, w.before args s = true := fun w h => ht w (hT w h).1
  have hG : GoodIn Ts ws := fun w h => hT w (by unfold va_wsS; exact List.mem_append_right _ h)
  have hc : Cond.codeWith y bytes maxL ret hh ∈ ws := by rw [hw]; exact List.mem_cons_self
  refine ⟨⟨hrc, hrs, hR.1, hR.2, pay_in ht hG, hc⟩, ht _ (hG _ hc).1, ok _ (by simp [va_wsS]), ⟨hd.1, hd.2.1⟩, fun sig h => ?_, ok _ (by simp [va_wsS]), ok _ (by simp [va_wsS])⟩
  have h2 := hd.2.2
  rw [h] at h2
  exact (Option.some.inj h2).symm
theorem vx_callSW (X : Stand p l e R s m args below meth c T locs cells slots) (hexec : p.tables.exec = Jvm.exec) {own : String} {index : Nat} {y : MethodName} {bytes : ByteArray} {maxL : Nat} {ret : Option FieldType} {hh : List (Nat × Nat × Nat × Nat)}
    (hown : s.vm.findClass own = some m.cls) (hlink : (Cond.methodLink own index y).before args s = true) (hstat : (Cond.static y).before args s = true) (hinit : (Cond.initialized y.cls).before args s = true)
    (hcode : (Cond.codeWith y bytes maxL ret hh).before args s = true) (hy : y.cls ≠ "java/lang/invoke/MethodHandle" ∧ y.cls ≠ "java/lang/invoke/VarHandle")
    {W9 : Nat} {Pre : Pt → Array Value → Prop} {Post : Pt → Array Value → Option Value → Pt → Prop} (hK : Back l R p e below s args y 3 W9 Pre Post)
    {g : JFrame} (hg : g.method = m) (hsize : g.locals.size = c.maxLocals) {argsL rest : List Value} (hlen : ∀ sig, parseMethodDescriptor y.desc = some sig → argsL.length = sig.parameters.length)
    (hstack : g.stack = argsL.reverse ++ rest) (hW : 2 * g.monitorRoom + (rest.map fun v => v.category).sum ≤ W9) (hdg : decode c.code g.pc = .ok (.invokestatic index, 3))
    (hpre : ∀ vm₁, s.WarmedH vm₁ → Pre ⟨T.setVm vm₁, locs, cells, slots⟩ argsL.toArray) :
    ∃ (v : Option Value) (vm₁ : Vm) (B : Pt), s.WarmedH vm₁ ∧ Stand p l e R s m args below meth c B.U B.locs B.cells B.slots ∧ Post ⟨T.setVm vm₁, locs, cells, slots⟩ argsL.toArray v B ∧
      ∀ target, Steps p.tables e below (B.U.setTop { g with pc := g.pc + 3, stack := v.toList ++ rest }) target → Steps p.tables e below (T.setTop g) target := by
  obtain ⟨mk, methM, cM, hnamed, hmethM, -, -, -, -, -, -, hsigM⟩ := Cond.codeWith_spec hcode
  have hstatic : methM.isStatic = true := Cond.static_spec hnamed hmethM hstat
  obtain ⟨kP, hkP, -⟩ := className_of_methodNamed hnamed
  have hinitP : kP.init = .initialized := Cond.initialized_spec (findClass_of_methodNamed hnamed) hkP hinit
  obtain ⟨vm₁, X₁, hstep₁⟩ := X.invokestatic hexec hown hlink hnamed hmethM hstatic hkP hinitP hy (g := g) hg (argsL := argsL) (rest := rest) (hlen _ hsigM) hstack hdg
  obtain ⟨v, B, X', hpost, hsteps⟩ := hK m meth c ⟨T.setVm vm₁, locs, cells, slots⟩ { g with stack := rest } (.invokestatic index) mk argsL.toArray X₁ hg hsize hdg hW (X₁.named hnamed) (hpre vm₁ X₁.warmed)
  exact ⟨v, vm₁, B, X₁.warmed, X', hpost, fun target h => hstep₁ _ fun acts => by rw [doInvoke_state]; exact hsteps.trans h⟩
theorem vx_runSW {y : MethodName} {bytes cc : ByteArray} {maxL nL mc ms n index : Nat} {ret : Option FieldType} {hh : List (Nat × Nat × Nat × Nat)} {ws : List Cond} {rm : Room} {Pc : Array Value → State → Prop} {Qc : Array Value → State → Outcome → State → Prop} {free : Addr → Prop} {Ts : List Cond} {own : String} {As rest : List Value} {g : JFrame}
    (S : CallFix p m c cc nL s args Ts own) (hM : Met l y ws rm Pc Qc mc ms free) (cw : vx_CSW R s args own index y bytes maxL ret hh ws rm mc ms n) (hp : PreS s H Pc As)
    (hg : g.method = m) (hn : As.length = n) (hsize : g.locals.size = nL) (hstack : g.stack = As.reverse ++ rest) (hW : 2 * g.monitorRoom + (rest.map fun v => v.category).sum ≤ 8) (hdg : decode cc g.pc = .ok (.invokestatic index, 3)) (hf : cells + mc ≤ R.cells ∧ slots + ms ≤ R.slots) :
    va_Run p l e R s m args below meth c H locs cells slots mc ms g rest (Qc As.toArray) (free) := by
  obtain ⟨⟨hrc, hrs, hfr, hlo, hws, hcw⟩, hcode, hini, hy, hlen, hl, hstt⟩ := cw
  have hK : Back l R p e below s args y 3 8 (PreOf R mc ms Pc) (PostOf Qc mc ms free) := va_backW (hh := hh) (bytes := bytes) (maxL := maxL) (ret := ret) hM hp.1 hrc hrs hfr hlo hws hcw (fun a' U hW => word_at hW (Or.inl (by first | rfl | simp [Cond.onTables, Cond.keeps, Cond.steady])) hini)
  obtain ⟨hx, hb, hml, ho, -⟩ := S
  intro T hT X
  obtain ⟨v, vm₁, ⟨U', l2, c2, s2⟩, hW₁, X', ⟨g', mk, t, L, e1, e2, hq, h1, hL, h2, h3⟩, st⟩ := vx_callSW X hx (hh := hh) (bytes := bytes) (maxL := maxL) (ret := ret) ho hl hstt hini hcode hy hK hg (hsize.trans hml.symm) (argsL := As) (rest := rest) (fun sig h => hn.trans (hlen sig h)) hstack hW (by rw [hb]; exact hdg)
    (fun vm₁ hW₁ => ⟨hf.1, hf.2, hp.2 (T.setVm vm₁) hT hW₁⟩)
  dsimp only [Pt.U, Pt.locs, Pt.cells, Pt.slots] at X' e1 e2 h1 h2 h3 st
  subst h1; subst h2; subst h3
  exact ⟨v, (T.setVm vm₁).calling g' mk As.toArray, t, U', L, hT, X', hL, e1, e2, hq, st⟩
/-- not caught here, past rows that name other classes: it goes on to the caller -/
theorem vx_outP {p : Program} {l : Launch} {e : Env} {R : Room} {s : State} {m : MethodId} {args : Array Value} {below : List Frame} {meth : Method} {c : Code} {H : Heap} {locs : List Loc} {cells slots : Nat} {free : Addr → Prop} {ls : Array Slot} {rest : List Value} {Qc : Array Value → State → Outcome → State → Prop} {XC : String → State → State → Prop}
    {pc : Nat} {own E : String} {ce : Cell} {q : Addr} {mc ms : Nat} (hown : s.vm.findClass own = some m.cls) (hlocks : meth.locks = false)
    (hpass : ∀ z ∈ c.exceptionTable.toList, covers z pc = false ∨ (z.catchType ≠ 0 ∧ ∃ nm : String, (Cond.classLink own z.catchType nm).before args s = true ∧ va_Nc E nm s)) (hcell : H[q]? = some ce) (hv : ce.vm = .none) (hcl : s.vm.findClass E = some ce.cls)
    (hx : ∀ t : State, t.heap = H → s.vm.Alike t.vm → XC E s t) (hf : ∀ z ∈ locs, free z.base) (hc : cells ≤ mc) (hs : slots ≤ ms) :
    vx_W p l e R s m args below meth c H locs cells slots (vx_MQ below Qc XC args s mc ms free) (F0 m pc ls rest) q := by
  intro T hT X
  have hpl : e.platform.magicAccessors = ({} : Platform).magicAccessors := by rw [X.admits.platform]
  obtain ⟨vm', hW', X', st⟩ := X.outThrough hlocks q (g := F0 m pc ls rest) rfl rfl rfl (cell := ce) (by rw [hT]; exact hcell) (by rw [hv]; rfl)
    (by obtain ⟨k9, h9, -⟩ := Vm.findClass_spec hcl; exact ⟨k9, h9⟩) (fun z hz => by
      rcases hpass z hz with h | ⟨hz0, nm, hl1, hn1⟩
      · exact Or.inl h
      · obtain ⟨c6, hc6, hcl6⟩ := Cond.classLink_spec hown hl1 e.platform hpl
        obtain ⟨a8, b8, h1, h2, h3⟩ := hn1
        cases Option.some.inj (h1.symm.trans hcl)
        cases Option.some.inj (h2.symm.trans hc6)
        exact Or.inr ⟨hz0, _, hcl6, h3⟩)
  obtain ⟨g₀, hfr⟩ := X'.frames_eq
  have hcell9 : ((T.setVm vm').setFrames (.throwing q :: below)).heap[q]? = some ce := by
    show T.heap[q]? = some ce
    rw [hT]; exact hcell
  have hend : Ended ((T.setVm vm').setFrames (.throwing q :: below)) below (.threw q) := State.frames_setFrames _ (State.cur_lt_of_frames hfr)
  refine ⟨(T.setVm vm').setFrames (.throwing q :: below), ?_, .threw q, X'.here.running, hend, Or.inr ⟨q, rfl, E, ce, locs, hx _ hT (X'.ends _).1.alike, hcell9, hv, hcl, (X'.ends _).1, (X'.ends _).2.mono hc hs, hf⟩⟩
  rw [X.pushThrowing_eq]
  exact st
/-- a thing of a world lies in the heap -/
theorem vx_lt {D : va_G} {cl : List vw_C} {ws : va_W} {H1 : Heap} (h : va_P D cl ws H1) {k : Nat} {q : Nat × va_E} (hk : ws[k]? = some q) : q.1 < H1.size := (h k q hk).lt
end VXS
/-! ===== END ===== -/
/-! ===== BEGIN methods with a table of their own: called by a name, returning or throwing ===== -/
section VXH
/-! vx_backW, vx_callVX, vx_callSX, vx_callVW, vx_runVW, vx_runVX, vx_runSX, vx_ofWH follow the same proofs as their sisters above (Free/Laws.lean, Shelf42/LK1.lean); vx_outP calls Shelf42/NT130.lean (outThrough). -/
section
variable {l : Launch} {R : Room} {p : Program} {e : Env} {below : List Frame} {s : State} {sargs : Array Value} {y : MethodName} {len W9 : Nat}
theorem vx_backW {ws : List Cond} {rm : Room} {Pc : Array Value → State → Prop} {Qc : Array Value → State → Outcome → State → Prop} {XC : String → State → State → Prop} {mc ms : Nat} {free : Addr → Prop} {bytes : ByteArray} {maxL : Nat} {ret : Option FieldType} {hh : List (Nat × Nat × Nat × Nat)}
    (hM : vx_Met l y ws rm Pc Qc XC mc ms free) (hblind : FrameBlind Pc) (hrc : rm.cells = mc) (hrs : rm.slots = ms)
    (hframes : rm.frames + 1 ≤ R.frames) (hlocals : W9 + (maxL + 11) + rm.locals ≤ R.locals)
    (hws : ∀ w ∈ ws, ∀ a' U, s.WarmedH U.vm → w.before a' U = true) (hcode : Cond.codeWith y bytes maxL ret hh ∈ ws) (hinit : ∀ a' U, s.WarmedH U.vm → (Cond.initialized y.cls).before a' U = true) :
    vx_Back l R p e below s sargs y len W9 (PreOf R mc ms Pc) (PostOf Qc mc ms free) (vx_Post XC mc ms free) := by
  intro m meth c A g ig mk a X hg hsize hdg hW hn hp
  have h1 : (headSpec ws rm).pre.before a A.U = true := atoms_intro fun w hw => hws w hw _ _ X.warmed
  have h2 : (Cond.codeWith y bytes maxL ret hh).before a A.U = true := hws _ hcode _ _ X.warmed
  have h3 : (Cond.initialized y.cls).before a A.U = true := hinit _ _ X.warmed
  have h4 : A.cells + (headSpec ws rm).room.cells ≤ R.cells := by rw [show (headSpec ws rm).room.cells = mc from hrc]; exact hp.1
  have h5 : A.slots + (headSpec ws rm).room.slots ≤ R.slots := by rw [show (headSpec ws rm).room.slots = ms from hrs]; exact hp.2.1
  have hPc : Pc a (A.U.calling g mk a) := hblind _ _ _ _ hp.2.2
  obtain ⟨U, Ls, c0, s0⟩ := A
  dsimp only [Pt.U, Pt.locs, Pt.cells, Pt.slots] at h1 h2 h3 h4 h5 X hn hPc ⊢
  obtain ⟨m9, methY, cY, hn9, hmY, hcY, -, hlY, -⟩ := Cond.codeWith_spec h2
  cases Option.some.inj (hn9.symm.trans hn)
  obtain ⟨kY, hkY, -⟩ := className_of_methodNamed hn
  have hinitY : kY.init = .initialized := Cond.initialized_spec (findClass_of_methodNamed hn) hkY h3
  have h : At U g.method c below := by rw [hg]; exact X.here
  have hlocals9 : W9 + (maxL + 11) + (headSpec ws rm).room.locals ≤ R.locals := hlocals
  have happ : (headSpec ws rm).appliesLoose y e.platform (U.calling g mk a) = true :=
    Spec.appliesLoose_calling (g := g) h hdg hn hkY hinitY
      (X.room_calling (g := g) (R' := (headSpec ws rm).room) hsize hmY hcY hframes (by rw [hlY]; omega) h4 h5) h1
  obtain ⟨mid, hmid⟩ := h.above
  have hfr : (U.setTop g).frames = (.java g :: mid) ++ below := by rw [State.frames_setTop' g h.top, hmid]; rfl
  obtain ⟨o, s₂, hsteps, -, hend, hq⟩ := Steps.callFree hM p X.admits X.cas X.clock (acts := []) hfr happ hPc trivial
  have hq' : vx_Q Qc XC mc ms free a (U.calling g mk a) o s₂ := hq
  rw [State.frames_setTop' g h.top] at hend
  obtain ⟨g₀, hg0⟩ := Option.isSome_iff_exists.mp h.top
  obtain ⟨r, hr⟩ := State.topJava?_eq_some.mp hg0
  have hr' : (({ U with heap := s₂.heap, slotsUsed := s₂.slotsUsed } : State).setVm s₂.vm).frames = .java g₀ :: r := hr
  rcases hq' with ⟨hqc, L, hfe, hL⟩ | ⟨q, rfl, E, ce, L, hx, hce, hcv, hcl, hW₂, hsm, hL⟩
  · obtain ⟨⟨v, rfl⟩, hW₂, e2, q2, q3, q4, q5, q6⟩ := id hfe
    have e3 : s₂ = ({ (U.calling g mk a).setFrames s₂.frames with heap := s₂.heap, slotsUsed := s₂.slotsUsed } : State).setVm s₂.vm := by
      have : s₂ = ({ s₂ with vm := (U.calling g mk a).vm } : State).setVm s₂.vm := rfl
      rw [e2] at this
      exact this
    obtain ⟨c₂, i₂, len₂, hc₂, hd₂, hf₂⟩ := hend
    have hW' : U.WarmedH s₂.vm := hW₂
    have hcc : c₂ = c := by
      have h1 : s₂.code? g.method = U.code? g.method := by
        rw [State.code?_eq, State.code?_eq, hW'.alike.method?]
      exact Option.some.inj (hc₂.symm.trans (h1.trans h.code))
    subst hcc
    have hlen : len₂ = len := by rw [hdg] at hd₂; cases hd₂; rfl
    subst hlen
    have hs₂ : s₂ = (({ U with heap := s₂.heap, slotsUsed := s₂.slotsUsed } : State).setVm s₂.vm).setTop { g with pc := g.pc + len₂, stack := v.toList ++ g.stack } := by
      refine e3.trans ?_
      rw [hf₂, State.calling_eq h.top, State.setFrames_setFrames, State.setTop_of_frames _ hr', hr]
      rfl
    have hsame : U.sameButNew ({ U with heap := s₂.heap, slotsUsed := s₂.slotsUsed } : State) L mc ms := by
      refine ⟨?_, q2, q3, q4, q5, q6⟩
      obtain ⟨t, ht, -⟩ := State.frames_cons hr
      show ({ U with heap := s₂.heap, slotsUsed := s₂.slotsUsed } : State) = { U.setFrames U.frames with heap := s₂.heap, slotsUsed := s₂.slotsUsed }
      rw [State.setFrames_self ht]
    subst hg
    refine Or.inl ⟨v, ⟨(({ U with heap := s₂.heap, slotsUsed := s₂.slotsUsed } : State).setVm s₂.vm), Ls ++ L, c0 + mc, s0 + ms⟩,
      ⟨X.admits, X.cas, X.clock, X.frames, X.room, X.hears, X.method, X.code, (X.here.setHeapUsed s₂.heap s₂.slotsUsed).setVm hW'.alike, X.tail, State.WarmedH.trans X.warmed hW', X.limits, X.bytes, X.same.trans (hsame.setVm s.vm)⟩,
      ⟨g, mk, s₂, L, rfl, rfl, hqc, rfl, hL, rfl, rfl⟩, ?_⟩
    show Steps p.tables e below _ ((({ U with heap := s₂.heap, slotsUsed := s₂.slotsUsed } : State).setVm s₂.vm).setTop { g with pc := g.pc + len₂, stack := v.toList ++ g.stack })
    rw [← hs₂]
    exact hsteps
  · obtain ⟨e2, q2, q3, q4, q5, q6⟩ := id hsm
    have e3 : s₂ = ({ (U.calling g mk a).setFrames s₂.frames with heap := s₂.heap, slotsUsed := s₂.slotsUsed } : State).setVm s₂.vm := by
      have : s₂ = ({ s₂ with vm := (U.calling g mk a).vm } : State).setVm s₂.vm := rfl
      rw [e2] at this
      exact this
    have hf₂ : s₂.frames = .throwing q :: .java g :: U.frames.tail := hend
    have hW' : U.WarmedH s₂.vm := hW₂
    have hs₂ : s₂ = ((({ U with heap := s₂.heap, slotsUsed := s₂.slotsUsed } : State).setVm s₂.vm).setTop g).pushFrame (.throwing q) := by
      refine e3.trans ?_
      rw [hf₂, State.calling_eq h.top, State.setFrames_setFrames, State.pushFrame, State.frames_setTop _ hr', State.setTop_of_frames _ hr', State.setFrames_setFrames, hr]
      rfl
    have hsame : U.sameButNew ({ U with heap := s₂.heap, slotsUsed := s₂.slotsUsed } : State) L mc ms := by
      refine ⟨?_, q2, q3, q4, q5, q6⟩
      obtain ⟨t, ht, -⟩ := State.frames_cons hr
      show ({ U with heap := s₂.heap, slotsUsed := s₂.slotsUsed } : State) = { U.setFrames U.frames with heap := s₂.heap, slotsUsed := s₂.slotsUsed }
      rw [State.setFrames_self ht]
    subst hg
    refine Or.inr ⟨q, ⟨(({ U with heap := s₂.heap, slotsUsed := s₂.slotsUsed } : State).setVm s₂.vm), Ls ++ L, c0 + mc, s0 + ms⟩,
      ⟨X.admits, X.cas, X.clock, X.frames, X.room, X.hears, X.method, X.code, (X.here.setHeapUsed s₂.heap s₂.slotsUsed).setVm hW'.alike, X.tail, State.WarmedH.trans X.warmed hW', X.limits, X.bytes, X.same.trans (hsame.setVm s.vm)⟩,
      ⟨g, mk, s₂, L, E, ce, rfl, rfl, hx, hce, hcv, hcl, rfl, hL, rfl, rfl⟩, ?_⟩
    show Steps p.tables e below _ (((({ U with heap := s₂.heap, slotsUsed := s₂.slotsUsed } : State).setVm s₂.vm).setTop g).pushFrame (.throwing q))
    rw [← hs₂]
    exact hsteps
end
variable {p : Program} {l : Launch} {e : Env} {R : Room} {s : State} {m : MethodId} {args : Array Value} {below : List Frame} {meth : Method} {c : Code} {T : State} {H : Heap} {locs : List Loc} {cells slots : Nat}
theorem vx_callVX (X : Stand p l e R s m args below meth c T locs cells slots) (hexec : p.tables.exec = Jvm.exec) {own C : String} {index : Nat} {y : MethodName} {bytes : ByteArray} {maxL : Nat} {ret : Option FieldType} {hh : List (Nat × Nat × Nat × Nat)}
    (hown : s.vm.findClass own = some m.cls) (hlink : (Cond.methodLink own index y).before args s = true) (hinst : (Cond.instanceMethod y).before args s = true) (hsel : (Cond.selects C y y).before args s = true)
    (hcode : (Cond.codeWith y bytes maxL ret hh).before args s = true) (hy : y.cls ≠ "java/lang/invoke/MethodHandle" ∧ y.cls ≠ "java/lang/invoke/VarHandle")
    {W9 : Nat} {Pre : Pt → Array Value → Prop} {Post : Pt → Array Value → Option Value → Pt → Prop} {PostX : Pt → Array Value → Addr → Pt → Prop} (hK : vx_Back l R p e below s args y 3 W9 Pre Post PostX)
    {b : Addr} {cellB : Cell} (hcell : T.heap[b]? = some cellB) (hobj : cellB.vm.isStatics = false) (hcls : s.vm.findClass C = some cellB.cls)
    {g : JFrame} (hg : g.method = m) (hsize : g.locals.size = c.maxLocals) {argsL rest : List Value} (hlen : ∀ sig, parseMethodDescriptor y.desc = some sig → argsL.length = sig.parameters.length)
    (hstack : g.stack = argsL.reverse ++ .ref b :: rest) (hW : 2 * g.monitorRoom + (rest.map fun v => v.category).sum ≤ W9) (hdg : decode c.code g.pc = .ok (.invokevirtual index, 3))
    (hpre : ∀ vm₁, s.WarmedH vm₁ → Pre ⟨T.setVm vm₁, locs, cells, slots⟩ (Value.ref b :: argsL).toArray) :
    (∃ (v : Option Value) (vm₁ : Vm) (B : Pt), s.WarmedH vm₁ ∧ Stand p l e R s m args below meth c B.U B.locs B.cells B.slots ∧ Post ⟨T.setVm vm₁, locs, cells, slots⟩ (Value.ref b :: argsL).toArray v B ∧
      ∀ target, Steps p.tables e below (B.U.setTop { g with pc := g.pc + 3, stack := v.toList ++ rest }) target → Steps p.tables e below (T.setTop g) target) ∨
    (∃ (q : Addr) (vm₁ : Vm) (B : Pt), s.WarmedH vm₁ ∧ Stand p l e R s m args below meth c B.U B.locs B.cells B.slots ∧ PostX ⟨T.setVm vm₁, locs, cells, slots⟩ (Value.ref b :: argsL).toArray q B ∧
      Steps p.tables e below (T.setTop g) ((B.U.setTop { g with stack := rest }).pushFrame (.throwing q))) := by
  obtain ⟨mk, methM, hnamed, hmethM, hstM, habM⟩ := Cond.instanceMethod_spec hinst
  obtain ⟨m8, methM', cM, hn8, hmethM', -, -, -, -, -, -, hsigM⟩ := Cond.codeWith_spec hcode
  cases Option.some.inj (hn8.symm.trans hnamed)
  cases hmethM.symm.trans hmethM'
  obtain ⟨c2, r2, m2, q1, q2, q3, q4, kP, hkP, hkPi⟩ := Cond.selects_spec hsel
  cases hcls.symm.trans q1
  cases (State.methodFound?_of_named hnamed hy).symm.trans q2
  cases hnamed.symm.trans q3
  have hselP : selectMethod e.platform s.vm cellB.cls mk = .method mk := by rw [Launch.admits_selectMethod X.admits]; exact q4
  obtain ⟨vm₁, X₁, hstep₁⟩ := X.invokevirtual hexec hown hlink hnamed hmethM hstM hkP hkPi hy (a := b) (cell := cellB) hcell
    (fun z h => by rw [h] at hobj; cases hobj) hselP hmethM habM hkP hkPi (g := g) hg (argsL := argsL) (rest := rest) (hlen _ hsigM) hstack hdg
  rcases hK m meth c ⟨T.setVm vm₁, locs, cells, slots⟩ { g with stack := rest } (.invokevirtual index) mk (Value.ref b :: argsL).toArray X₁ hg hsize hdg hW (X₁.named hnamed) (hpre vm₁ X₁.warmed) with ⟨v, B, X', hpost, hsteps⟩ | ⟨q, B, X', hpost, hsteps⟩
  · exact Or.inl ⟨v, vm₁, B, X₁.warmed, X', hpost, fun target h => hstep₁ _ fun acts => by rw [doInvoke_state]; exact hsteps.trans h⟩
  · exact Or.inr ⟨q, vm₁, B, X₁.warmed, X', hpost, hstep₁ _ fun acts => by rw [doInvoke_state]; exact hsteps⟩
theorem vx_callSX (X : Stand p l e R s m args below meth c T locs cells slots) (hexec : p.tables.exec = Jvm.exec) {own : String} {index : Nat} {y : MethodName} {bytes : ByteArray} {maxL : Nat} {ret : Option FieldType} {hh : List (Nat × Nat × Nat × Nat)}
    (hown : s.vm.findClass own = some m.cls) (hlink : (Cond.methodLink own index y).before args s = true) (hstat : (Cond.static y).before args s = true) (hinit : (Cond.initialized y.cls).before args s = true)
    (hcode : (Cond.codeWith y bytes maxL ret hh).before args s = true) (hy : y.cls ≠ "java/lang/invoke/MethodHandle" ∧ y.cls ≠ "java/lang/invoke/VarHandle")
    {W9 : Nat} {Pre : Pt → Array Value → Prop} {Post : Pt → Array Value → Option Value → Pt → Prop} {PostX : Pt → Array Value → Addr → Pt → Prop} (hK : vx_Back l R p e below s args y 3 W9 Pre Post PostX)
    {g : JFrame} (hg : g.method = m) (hsize : g.locals.size = c.maxLocals) {argsL rest : List Value} (hlen : ∀ sig, parseMethodDescriptor y.desc = some sig → argsL.length = sig.parameters.length)
    (hstack : g.stack = argsL.reverse ++ rest) (hW : 2 * g.monitorRoom + (rest.map fun v => v.category).sum ≤ W9) (hdg : decode c.code g.pc = .ok (.invokestatic index, 3))
    (hpre : ∀ vm₁, s.WarmedH vm₁ → Pre ⟨T.setVm vm₁, locs, cells, slots⟩ argsL.toArray) :
    (∃ (v : Option Value) (vm₁ : Vm) (B : Pt), s.WarmedH vm₁ ∧ Stand p l e R s m args below meth c B.U B.locs B.cells B.slots ∧ Post ⟨T.setVm vm₁, locs, cells, slots⟩ argsL.toArray v B ∧
      ∀ target, Steps p.tables e below (B.U.setTop { g with pc := g.pc + 3, stack := v.toList ++ rest }) target → Steps p.tables e below (T.setTop g) target) ∨
    (∃ (q : Addr) (vm₁ : Vm) (B : Pt), s.WarmedH vm₁ ∧ Stand p l e R s m args below meth c B.U B.locs B.cells B.slots ∧ PostX ⟨T.setVm vm₁, locs, cells, slots⟩ argsL.toArray q B ∧
      Steps p.tables e below (T.setTop g) ((B.U.setTop { g with stack := rest }).pushFrame (.throwing q))) := by
  obtain ⟨mk, methM, cM, hnamed, hmethM, -, -, -, -, -, -, hsigM⟩ := Cond.codeWith_spec hcode
  have hstatic : methM.isStatic = true := Cond.static_spec hnamed hmethM hstat
  obtain ⟨kP, hkP, -⟩ := className_of_methodNamed hnamed
  have hinitP : kP.init = .initialized := Cond.initialized_spec (findClass_of_methodNamed hnamed) hkP hinit
  obtain ⟨vm₁, X₁, hstep₁⟩ := X.invokestatic hexec hown hlink hnamed hmethM hstatic hkP hinitP hy (g := g) hg (argsL := argsL) (rest := rest) (hlen _ hsigM) hstack hdg
  rcases hK m meth c ⟨T.setVm vm₁, locs, cells, slots⟩ { g with stack := rest } (.invokestatic index) mk argsL.toArray X₁ hg hsize hdg hW (X₁.named hnamed) (hpre vm₁ X₁.warmed) with ⟨v, B, X', hpost, hsteps⟩ | ⟨q, B, X', hpost, hsteps⟩
  · exact Or.inl ⟨v, vm₁, B, X₁.warmed, X', hpost, fun target h => hstep₁ _ fun acts => by rw [doInvoke_state]; exact hsteps.trans h⟩
  · exact Or.inr ⟨q, vm₁, B, X₁.warmed, X', hpost, hstep₁ _ fun acts => by rw [doInvoke_state]; exact hsteps⟩
theorem vx_callVW (X : Stand p l e R s m args below meth c T locs cells slots) (hexec : p.tables.exec = Jvm.exec) {own C : String} {index : Nat} {y : MethodName} {bytes : ByteArray} {maxL : Nat} {ret : Option FieldType} {hh : List (Nat × Nat × Nat × Nat)}
    (hown : s.vm.findClass own = some m.cls) (hlink : (Cond.methodLink own index y).before args s = true) (hinst : (Cond.instanceMethod y).before args s = true) (hsel : (Cond.selects C y y).before args s = true)
    (hcode : (Cond.codeWith y bytes maxL ret hh).before args s = true) (hy : y.cls ≠ "java/lang/invoke/MethodHandle" ∧ y.cls ≠ "java/lang/invoke/VarHandle")
    {W9 : Nat} {Pre : Pt → Array Value → Prop} {Post : Pt → Array Value → Option Value → Pt → Prop} (hK : Back l R p e below s args y 3 W9 Pre Post)
    {b : Addr} {cellB : Cell} (hcell : T.heap[b]? = some cellB) (hobj : cellB.vm.isStatics = false) (hcls : s.vm.findClass C = some cellB.cls)
    {g : JFrame} (hg : g.method = m) (hsize : g.locals.size = c.maxLocals) {argsL rest : List Value} (hlen : ∀ sig, parseMethodDescriptor y.desc = some sig → argsL.length = sig.parameters.length)
    (hstack : g.stack = argsL.reverse ++ .ref b :: rest) (hW : 2 * g.monitorRoom + (rest.map fun v => v.category).sum ≤ W9) (hdg : decode c.code g.pc = .ok (.invokevirtual index, 3))
    (hpre : ∀ vm₁, s.WarmedH vm₁ → Pre ⟨T.setVm vm₁, locs, cells, slots⟩ (Value.ref b :: argsL).toArray) :
    ∃ (v : Option Value) (vm₁ : Vm) (B : Pt), s.WarmedH vm₁ ∧ Stand p l e R s m args below meth c B.U B.locs B.cells B.slots ∧ Post ⟨T.setVm vm₁, locs, cells, slots⟩ (Value.ref b :: argsL).toArray v B ∧
      ∀ target, Steps p.tables e below (B.U.setTop { g with pc := g.pc + 3, stack := v.toList ++ rest }) target → Steps p.tables e below (T.setTop g) target := by
  obtain ⟨mk, methM, hnamed, hmethM, hstM, habM⟩ := Cond.instanceMethod_spec hinst
  obtain ⟨m8, methM', cM, hn8, hmethM', -, -, -, -, -, -, hsigM⟩ := Cond.codeWith_spec hcode
  cases Option.some.inj (hn8.symm.trans hnamed)
  cases hmethM.symm.trans hmethM'
  obtain ⟨c2, r2, m2, q1, q2, q3, q4, kP, hkP, hkPi⟩ := Cond.selects_spec hsel
  cases hcls.symm.trans q1
  cases (State.methodFound?_of_named hnamed hy).symm.trans q2
  cases hnamed.symm.trans q3
  have hselP : selectMethod e.platform s.vm cellB.cls mk = .method mk := by rw [Launch.admits_selectMethod X.admits]; exact q4
  obtain ⟨vm₁, X₁, hstep₁⟩ := X.invokevirtual hexec hown hlink hnamed hmethM hstM hkP hkPi hy (a := b) (cell := cellB) hcell
    (fun z h => by rw [h] at hobj; cases hobj) hselP hmethM habM hkP hkPi (g := g) hg (argsL := argsL) (rest := rest) (hlen _ hsigM) hstack hdg
  obtain ⟨v, B, X', hpost, hsteps⟩ := hK m meth c ⟨T.setVm vm₁, locs, cells, slots⟩ { g with stack := rest } (.invokevirtual index) mk (Value.ref b :: argsL).toArray X₁ hg hsize hdg hW (X₁.named hnamed) (hpre vm₁ X₁.warmed)
  exact ⟨v, vm₁, B, X₁.warmed, X', hpost, fun target h => hstep₁ _ fun acts => by rw [doInvoke_state]; exact hsteps.trans h⟩
abbrev vx_CVW (R : Room) (s : State) (args : Array Value) (own C : String) (index : Nat) (y : MethodName) (bytes : ByteArray) (maxL : Nat) (ret : Option FieldType) (hh : List (Nat × Nat × Nat × Nat)) (ws : List Cond) (rm : Room) (mc ms n : Nat) : Prop :=
  (rm.cells = mc ∧ rm.slots = ms ∧ rm.frames + 1 ≤ R.frames ∧ 8 + (maxL + 11) + rm.locals ≤ R.locals ∧ (∀ w ∈ ws, ∀ (a' : Array Value) (U : State), s.WarmedH U.vm → w.before a' U = true) ∧ Cond.codeWith y bytes maxL ret hh ∈ ws) ∧
  (Cond.codeWith y bytes maxL ret hh).before args s = true ∧ (Cond.initialized y.cls).before args s = true ∧ (y.cls ≠ "java/lang/invoke/MethodHandle" ∧ y.cls ≠ "java/lang/invoke/VarHandle") ∧
  (∀ sig, parseMethodDescriptor y.desc = some sig → n = sig.parameters.length) ∧ (Cond.methodLink own index y).before args s = true ∧ (Cond.instanceMethod y).before args s = true ∧ (Cond.selects C y y).before args s = true
theorem vx_cwVW {own C : String} {index maxL mc ms : Nat} {y : MethodName} {bytes : ByteArray} {ret : Option FieldType} {hh : List (Nat × Nat × Nat × Nat)} {Ts ws ws' : List Cond} {rm : Room} (n : Nat) (ht : ∀ w ∈ Ts, w.before args s = true) (hT : GoodIn Ts (wsV own index C y ws)) (hw : ws = Cond.codeWith y bytes maxL ret hh :: ws') (hrc : rm.cells = mc) (hrs : rm.slots = ms)
    (hd : y.cls = C ∧ y.cls ≠ "java/lang/invoke/MethodHandle" ∧ y.cls ≠ "java/lang/invoke/VarHandle" ∧ (parseMethodDescriptor y.desc).map (fun d => d.parameters.length) = some n) (hR : rm.frames + 1 ≤ R.frames ∧ 8 + (maxL + 11) + rm.locals ≤ R.locals) :
    vx_CVW R s args own C index y bytes maxL ret hh ws rm mc ms n := by
  obtain ⟨hC, hd⟩ := hd
  subst hC
  have ok : ∀ w ∈ wsV own index y.cls y ws, w.before args s = true := fun w h => ht w (hT w h).1
  have hG : GoodIn Ts ws := fun w h => hT w (by unfold wsV; exact List.mem_append_right _ h)
  have hc : Cond.codeWith y bytes maxL ret hh ∈ ws := by rw [hw]; exact List.mem_cons_self
  refine ⟨⟨hrc, hrs, hR.1, hR.2, pay_in ht hG, hc⟩, ht _ (hG _ hc).1, ok _ (by simp [wsV]), ⟨hd.1, hd.2.1⟩, fun sig h => ?_, ok _ (by simp [wsV]), ok _ (by simp [wsV]), ok _ (by simp [wsV])⟩
  have h2 := hd.2.2
  rw [h] at h2
  exact (Option.some.inj h2).symm
theorem vx_runVW {y : MethodName} {bytes cc : ByteArray} {maxL nL mc ms n index : Nat} {ret : Option FieldType} {hh : List (Nat × Nat × Nat × Nat)} {ws : List Cond} {rm : Room} {Pc : Array Value → State → Prop} {Qc : Array Value → State → Outcome → State → Prop} {free : Addr → Prop} {Ts : List Cond} {own C : String} {b : Addr} {As rest : List Value} {g : JFrame}
    (S : CallFix p m c cc nL s args Ts own) (hM : Met l y ws rm Pc Qc mc ms free) (cw : vx_CVW R s args own C index y bytes maxL ret hh ws rm mc ms n) (hp : PreV s H C b Pc As)
    (hg : g.method = m) (hn : As.length = n) (hsize : g.locals.size = nL) (hstack : g.stack = As.reverse ++ .ref b :: rest) (hW : 2 * g.monitorRoom + (rest.map fun v => v.category).sum ≤ 8) (hdg : decode cc g.pc = .ok (.invokevirtual index, 3)) (hf : cells + mc ≤ R.cells ∧ slots + ms ≤ R.slots) :
    va_Run p l e R s m args below meth c H locs cells slots mc ms g rest (Qc (Value.ref b :: As).toArray) free := by
  obtain ⟨⟨hrc, hrs, hfr, hlo, hws, hcw⟩, hcode, hini, hy, hlen, hl, hin, hse⟩ := cw
  have hK : Back l R p e below s args y 3 8 (PreOf R mc ms Pc) (PostOf Qc mc ms free) := va_backW (hh := hh) (bytes := bytes) (maxL := maxL) (ret := ret) hM hp.1 hrc hrs hfr hlo hws hcw (fun a' U hW => word_at hW (Or.inl (by first | rfl | simp [Cond.onTables, Cond.keeps, Cond.steady])) hini)
  obtain ⟨hx, hb, hml, ho, -⟩ := S
  obtain ⟨-, ⟨cellB, hcB, hoB, hclB⟩, hPc⟩ := hp
  intro T hT X
  obtain ⟨v, vm₁, ⟨U', l2, c2, s2⟩, hW₁, X', ⟨g', mk, t, L, e1, e2, hq, h1, hL, h2, h3⟩, st⟩ := vx_callVW X hx (C := C) (hh := hh) (bytes := bytes) (maxL := maxL) (ret := ret) ho hl hin hse hcode hy hK (by rw [hT]; exact hcB) hoB hclB hg (hsize.trans hml.symm) (argsL := As) (rest := rest) (fun sig h => hn.trans (hlen sig h)) hstack hW (by rw [hb]; exact hdg)
    (fun vm₁ hW₁ => ⟨hf.1, hf.2, hPc (T.setVm vm₁) hT hW₁⟩)
  dsimp only [Pt.U, Pt.locs, Pt.cells, Pt.slots] at X' e1 e2 h1 h2 h3 st
  subst h1; subst h2; subst h3
  exact ⟨v, (T.setVm vm₁).calling g' mk (Value.ref b :: As).toArray, t, U', L, hT, X', hL, e1, e2, hq, st⟩
section
variable {y : MethodName} {bytes cc : ByteArray} {maxL nL mc ms n index : Nat} {ret : Option FieldType} {ws : List Cond} {rm : Room} {Pc : Array Value → State → Prop} {Qc : Array Value → State → Outcome → State → Prop} {XC : String → State → State → Prop} {free : Addr → Prop} {Ts : List Cond} {own C : String} {b : Addr} {As rest : List Value} {g : JFrame}
theorem vx_runVX {hh : List (Nat × Nat × Nat × Nat)} (S : CallFix p m c cc nL s args Ts own) (hM : vx_Met l y ws rm Pc Qc XC mc ms free) (cw : vx_CVW R s args own C index y bytes maxL ret hh ws rm mc ms n) (hp : PreV s H C b Pc As)
    (hg : g.method = m) (hn : As.length = n) (hsize : g.locals.size = nL) (hstack : g.stack = As.reverse ++ .ref b :: rest) (hW : 2 * g.monitorRoom + (rest.map fun v => v.category).sum ≤ 8) (hdg : decode cc g.pc = .ok (.invokevirtual index, 3)) (hf : cells + mc ≤ R.cells ∧ slots + ms ≤ R.slots) :
    vx_Run p l e R s m args below meth c H locs cells slots mc ms g rest (Qc (Value.ref b :: As).toArray) XC free := by
  obtain ⟨⟨hrc, hrs, hfr, hlo, hws, hcw⟩, hcode, hini, hy, hlen, hl, hin, hse⟩ := cw
  have hK : vx_Back l R p e below s args y 3 8 (PreOf R mc ms Pc) (PostOf Qc mc ms free) (vx_Post XC mc ms free) := vx_backW (hh := hh) (bytes := bytes) (maxL := maxL) (ret := ret) hM hp.1 hrc hrs hfr hlo hws hcw (fun a' U hW => word_at hW (Or.inl (by first | rfl | simp [Cond.onTables, Cond.keeps, Cond.steady])) hini)
  obtain ⟨hx, hb, hml, ho, -⟩ := S
  obtain ⟨-, ⟨cellB, hcB, hoB, hclB⟩, hPc⟩ := hp
  intro T hT X
  rcases vx_callVX X hx (C := C) (hh := hh) (bytes := bytes) (maxL := maxL) (ret := ret) ho hl hin hse hcode hy hK (by rw [hT]; exact hcB) hoB hclB hg (hsize.trans hml.symm) (argsL := As) (rest := rest) (fun sig h => hn.trans (hlen sig h)) hstack hW (by rw [hb]; exact hdg)
    (fun vm₁ hW₁ => ⟨hf.1, hf.2, hPc (T.setVm vm₁) hT hW₁⟩) with ⟨v, vm₁, ⟨U', l2, c2, s2⟩, hW₁, X', ⟨g', mk, t, L, e1, e2, hq, h1, hL, h2, h3⟩, st⟩ | ⟨q, vm₁, ⟨U', l2, c2, s2⟩, hW₁, X', ⟨g', mk, t, L, E, ce, e1, e2, hq, hce, hcv, hcl, h1, hL, h2, h3⟩, st⟩
  · dsimp only [Pt.U, Pt.locs, Pt.cells, Pt.slots] at X' e1 e2 h1 h2 h3 st
    subst h1; subst h2; subst h3
    exact Or.inl ⟨v, (T.setVm vm₁).calling g' mk (Value.ref b :: As).toArray, t, U', L, hT, X', hL, e1, e2, hq, st⟩
  · dsimp only [Pt.U, Pt.locs, Pt.cells, Pt.slots] at X' e1 e2 h1 h2 h3 st hcl
    subst h1; subst h2; subst h3
    exact Or.inr ⟨q, (T.setVm vm₁).calling g' mk (Value.ref b :: As).toArray, t, U', L, E, ce, hT, X', hL, e1, e2, hq, hce, hcv, vx_cls hW₁ hcl, st⟩
theorem vx_runSX {hh : List (Nat × Nat × Nat × Nat)} (S : CallFix p m c cc nL s args Ts own) (hM : vx_Met l y ws rm Pc Qc XC mc ms free) (cw : vx_CSW R s args own index y bytes maxL ret hh ws rm mc ms n) (hp : PreS s H Pc As)
    (hg : g.method = m) (hn : As.length = n) (hsize : g.locals.size = nL) (hstack : g.stack = As.reverse ++ rest) (hW : 2 * g.monitorRoom + (rest.map fun v => v.category).sum ≤ 8) (hdg : decode cc g.pc = .ok (.invokestatic index, 3)) (hf : cells + mc ≤ R.cells ∧ slots + ms ≤ R.slots) :
    vx_Run p l e R s m args below meth c H locs cells slots mc ms g rest (Qc As.toArray) XC free := by
  obtain ⟨⟨hrc, hrs, hfr, hlo, hws, hcw⟩, hcode, hini, hy, hlen, hl, hstt⟩ := cw
  have hK : vx_Back l R p e below s args y 3 8 (PreOf R mc ms Pc) (PostOf Qc mc ms free) (vx_Post XC mc ms free) := vx_backW (hh := hh) (bytes := bytes) (maxL := maxL) (ret := ret) hM hp.1 hrc hrs hfr hlo hws hcw (fun a' U hW => word_at hW (Or.inl (by first | rfl | simp [Cond.onTables, Cond.keeps, Cond.steady])) hini)
  obtain ⟨hx, hb, hml, ho, -⟩ := S
  intro T hT X
  rcases vx_callSX X hx (hh := hh) (bytes := bytes) (maxL := maxL) (ret := ret) ho hl hstt hini hcode hy hK hg (hsize.trans hml.symm) (argsL := As) (rest := rest) (fun sig h => hn.trans (hlen sig h)) hstack hW (by rw [hb]; exact hdg)
    (fun vm₁ hW₁ => ⟨hf.1, hf.2, hp.2 (T.setVm vm₁) hT hW₁⟩) with ⟨v, vm₁, ⟨U', l2, c2, s2⟩, hW₁, X', ⟨g', mk, t, L, e1, e2, hq, h1, hL, h2, h3⟩, st⟩ | ⟨q, vm₁, ⟨U', l2, c2, s2⟩, hW₁, X', ⟨g', mk, t, L, E, ce, e1, e2, hq, hce, hcv, hcl, h1, hL, h2, h3⟩, st⟩
  · dsimp only [Pt.U, Pt.locs, Pt.cells, Pt.slots] at X' e1 e2 h1 h2 h3 st
    subst h1; subst h2; subst h3
    exact Or.inl ⟨v, (T.setVm vm₁).calling g' mk As.toArray, t, U', L, hT, X', hL, e1, e2, hq, st⟩
  · dsimp only [Pt.U, Pt.locs, Pt.cells, Pt.slots] at X' e1 e2 h1 h2 h3 st hcl
    subst h1; subst h2; subst h3
    exact Or.inr ⟨q, (T.setVm vm₁).calling g' mk As.toArray, t, U', L, E, ce, hT, X', hL, e1, e2, hq, hce, hcv, vx_cls hW₁ hcl, st⟩
end
end VXH
theorem vx_ofWH {l : Launch} {y : MethodName} {ws ws' : List Cond} {rm : Room} {Pc : Array Value → State → Prop} {Qc : Array Value → State → Outcome → State → Prop} {XC : String → State → State → Prop} {mc ms : Nat} {free : Addr → Prop} {cc : ByteArray} {maxL : Nat} {ret : Option FieldType} {hh : List (Nat × Nat × Nat × Nat)}
    (hy : plainName y.cls = true) (hw : ws = Cond.codeWith y cc maxL ret hh :: ws')
    (body : ∀ p e s m args below meth c s₁, BodyLoose p l y (headSpec ws rm) cc maxL ret e s m args below meth c s₁ → c.maxLocals = maxL → Pc args s →
      W p l e (headSpec ws rm).room s m args below meth c s.heap [] 0 0 (vx_MQ below Qc XC args s mc ms free) (entryFrame m args maxL)) : vx_Met l y ws rm Pc Qc XC mc ms free := by
  refine MetFree.of_bodyS (code := cc) (maxLocals := maxL) (ret := ret) hy ?_ ?_
  · intro args s m h hn
    obtain ⟨m9, meth, c, hn9, h1, h2, h3, h4, -, h5, h6, -⟩ := Cond.codeWith_spec (atoms_spec (ws := ws) h _ (by rw [hw]; exact List.mem_cons_self))
    cases hn.symm.trans hn9
    exact ⟨meth, c, h1, h2, h3, h4, h5, h6⟩
  · intro p e s m args below meth c s₁ B hml hP _
    have hh0 : s₁.heap = s.heap := by rw [B.state]; rfl
    obtain ⟨t, a1, o, b1, b2, b3⟩ := body p e s m args below meth c s₁ B hml hP s₁ hh0 (Stand.of_body B)
    exact ⟨t, o, a1, b1, b2, b3⟩
/-! ===== END ===== -/
end
section
def RX0 : String := "DilutedDesk$Dilution"
def TX0 : u_T := fun k => match k with
  | 0 => ("DilutedDesk$Dilution", "ranked", "[I", true)
  | 1 => ("DilutedDesk$Dilution", "rankedCount", "I", false)
  | 2 => ("DilutedDesk$Dilution", "set", "I", false)
  | 3 => ("DilutedDesk$Dilution", "ender", "I", false)
  | 4 => ("DilutedDesk$Dilution", "toWeight", "[J", true)
  | 5 => ("DilutedDesk$Dilution", "toEarnings", "[J", true)
  | 6 => ("DilutedDesk$Dilution", "profitFloors", "[J", true)
  | 7 => ("DilutedDesk$Dilution", "candidates", "[I", true)
  | 8 => ("DilutedDesk$Dilution", "candidateCount", "I", false)
  | 9 => ("DilutedDesk$Dilution", "runDays", "I", false)
  | 10 => ("DilutedDesk$Dilution", "basicWeight", "J", false)
  | _ => ("DilutedDesk$Dilution", "basicEarnings", "J", false)
def tyX0 : Nat → FieldType := fun k => match k with
  | 0 => .array .int
  | 1 => .int
  | 2 => .int
  | 3 => .int
  | 4 => .array .long
  | 5 => .array .long
  | 6 => .array .long
  | 7 => .array .int
  | 8 => .int
  | 9 => .int
  | 10 => .long
  | _ => .long
abbrev wsX00 : List Cond := u_ws RX0 TX0 12
theorem nmX0 : ∀ a, a < 12 → ∀ b, b < 12 → a ≠ b → (TX0 a).2.1 ≠ (TX0 b).2.1 := by decide +kernel
theorem tyX0_ok : ∀ k, k < 12 → parseFieldDescriptor (TX0 k).2.2.1 = some (tyX0 k) := by decide +kernel
abbrev cX0_init : ByteArray := prog_2_method_1_code
def yX0_init : MethodName := ⟨RX0, "<init>", "()V"⟩
abbrev cX0_judge : ByteArray := prog_2_method_2_code
def yX0_judge : MethodName := ⟨RX0, "judge", "(LDilutedDesk$Year;III)V"⟩
abbrev cX0_gather : ByteArray := prog_2_method_3_code
def yX0_gather : MethodName := ⟨RX0, "gather", "(LDilutedDesk$Year;III)V"⟩
abbrev cX0_settle : ByteArray := prog_2_method_4_code
def yX0_settle : MethodName := ⟨RX0, "settle", "(JJ)V"⟩
abbrev cX0_diluted : ByteArray := prog_2_method_5_code
def yX0_diluted : MethodName := ⟨RX0, "diluted", "()I"⟩
abbrev cX0_rankedSet : ByteArray := prog_2_method_6_code
def yX0_rankedSet : MethodName := ⟨RX0, "rankedSet", "()I"⟩
abbrev cX0_aShareWith : ByteArray := prog_2_method_7_code
def yX0_aShareWith : MethodName := ⟨RX0, "aShareWith", "(IJ)I"⟩
abbrev cX0_takeIn : ByteArray := prog_2_method_8_code
def yX0_takeIn : MethodName := ⟨RX0, "takeIn", "()V"⟩
abbrev cX0_placeByHarm : ByteArray := prog_2_method_9_code
def yX0_placeByHarm : MethodName := ⟨RX0, "placeByHarm", "(I)V"⟩
abbrev cX0_harmsLess : ByteArray := prog_2_method_10_code
def yX0_harmsLess : MethodName := ⟨RX0, "harmsLess", "(II)Z"⟩
def RX1 : String := "DilutedDesk$History"
def TX1 : u_T := fun k => match k with
  | 0 => ("DilutedDesk$History", "count", "I", false)
  | 1 => ("DilutedDesk$History", "kinds", "[I", true)
  | 2 => ("DilutedDesk$History", "quarters", "[I", true)
  | _ => ("DilutedDesk$History", "before", "[I", true)
def tyX1 : Nat → FieldType := fun k => match k with
  | 0 => .int
  | 1 => .array .int
  | 2 => .array .int
  | _ => .array .int
abbrev wsX10 : List Cond := u_ws RX1 TX1 4
theorem nmX1 : ∀ a, a < 4 → ∀ b, b < 4 → a ≠ b → (TX1 a).2.1 ≠ (TX1 b).2.1 := by decide +kernel
theorem tyX1_ok : ∀ k, k < 4 → parseFieldDescriptor (TX1 k).2.2.1 = some (tyX1 k) := by decide +kernel
abbrev cX1_init : ByteArray := prog_3_method_1_code
def yX1_init : MethodName := ⟨RX1, "<init>", "()V"⟩
abbrev cX1_keep : ByteArray := prog_3_method_2_code
def yX1_keep : MethodName := ⟨RX1, "keep", "(III)V"⟩
abbrev cX1_takeBack : ByteArray := prog_3_method_3_code
def yX1_takeBack : MethodName := ⟨RX1, "takeBack", "(LDilutedDesk$Year;)V"⟩
abbrev cX1_forgetOldest : ByteArray := prog_3_method_4_code
def yX1_forgetOldest : MethodName := ⟨RX1, "forgetOldest", "()V"⟩
def RX2 : String := "DilutedDesk$Reader"
def TX2 : u_T := fun k => match k with
  | 0 => ("DilutedDesk$Reader", "tape", "LDilutedDesk$Tape;", true)
  | 1 => ("DilutedDesk$Reader", "faultKind", "I", false)
  | 2 => ("DilutedDesk$Reader", "faultPlace", "I", false)
  | 3 => ("DilutedDesk$Reader", "place", "I", false)
  | 4 => ("DilutedDesk$Reader", "next", "I", false)
  | 5 => ("DilutedDesk$Reader", "token", "I", false)
  | _ => ("DilutedDesk$Reader", "value", "I", false)
def tyX2 : Nat → FieldType := fun k => match k with
  | 0 => .object "DilutedDesk$Tape"
  | 1 => .int
  | 2 => .int
  | 3 => .int
  | 4 => .int
  | 5 => .int
  | _ => .int
abbrev wsX20 : List Cond := u_ws RX2 TX2 7
theorem nmX2 : ∀ a, a < 7 → ∀ b, b < 7 → a ≠ b → (TX2 a).2.1 ≠ (TX2 b).2.1 := by decide +kernel
theorem tyX2_ok : ∀ k, k < 7 → parseFieldDescriptor (TX2 k).2.2.1 = some (tyX2 k) := by decide +kernel
abbrev cX2_init : ByteArray := prog_4_method_1_code
def yX2_init : MethodName := ⟨RX2, "<init>", "(LDilutedDesk$Tape;)V"⟩
abbrev cX2_read : ByteArray := prog_4_method_2_code
def yX2_read : MethodName := ⟨RX2, "read", "(LDilutedDesk$Year;)I"⟩
abbrev cX2_readOthers : ByteArray := prog_4_method_3_code
def yX2_readOthers : MethodName := ⟨RX2, "readOthers", "(LDilutedDesk$Year;)I"⟩
abbrev cX2_atEnd : ByteArray := prog_4_method_4_code
def yX2_atEnd : MethodName := ⟨RX2, "atEnd", "(I)I"⟩
abbrev cX2_readShares : ByteArray := prog_4_method_5_code
def yX2_readShares : MethodName := ⟨RX2, "readShares", "(LDilutedDesk$Year;)Z"⟩
abbrev cX2_readQuarter : ByteArray := prog_4_method_6_code
def yX2_readQuarter : MethodName := ⟨RX2, "readQuarter", "(LDilutedDesk$Year;I)Z"⟩
abbrev cX2_readOther : ByteArray := prog_4_method_7_code
def yX2_readOther : MethodName := ⟨RX2, "readOther", "(LDilutedDesk$Year;)Z"⟩
abbrev cX2_readEvent : ByteArray := prog_4_method_8_code
def yX2_readEvent : MethodName := ⟨RX2, "readEvent", "(LDilutedDesk$Year;I)Z"⟩
abbrev cX2_readInstrument : ByteArray := prog_4_method_9_code
def yX2_readInstrument : MethodName := ⟨RX2, "readInstrument", "(LDilutedDesk$Year;I)Z"⟩
abbrev cX2_word : ByteArray := prog_4_method_10_code
def yX2_word : MethodName := ⟨RX2, "word", "(Ljava/lang/String;)Z"⟩
abbrev cX2_number : ByteArray := prog_4_method_11_code
def yX2_number : MethodName := ⟨RX2, "number", "(II)Z"⟩
abbrev cX2_semicolon : ByteArray := prog_4_method_12_code
def yX2_semicolon : MethodName := ⟨RX2, "semicolon", "()Z"⟩
abbrev cX2_fail : ByteArray := prog_4_method_13_code
def yX2_fail : MethodName := ⟨RX2, "fail", "(I)Z"⟩
abbrev cX2_isWord : ByteArray := prog_4_method_14_code
def yX2_isWord : MethodName := ⟨RX2, "isWord", "(Ljava/lang/String;)Z"⟩
abbrev cX2_step : ByteArray := prog_4_method_15_code
def yX2_step : MethodName := ⟨RX2, "step", "()V"⟩
abbrev cX2_stepLettersAndDigits : ByteArray := prog_4_method_16_code
def yX2_stepLettersAndDigits : MethodName := ⟨RX2, "stepLettersAndDigits", "()V"⟩
def RX3 : String := "DilutedDesk$Tape"
def TX3 : u_T := fun k => match k with
  | 0 => ("DilutedDesk$Tape", "bytes", "[B", true)
  | _ => ("DilutedDesk$Tape", "length", "I", false)
def tyX3 : Nat → FieldType := fun k => match k with
  | 0 => .array .byte
  | _ => .int
abbrev wsX30 : List Cond := u_ws RX3 TX3 2
theorem nmX3 : ∀ a, a < 2 → ∀ b, b < 2 → a ≠ b → (TX3 a).2.1 ≠ (TX3 b).2.1 := by decide +kernel
theorem tyX3_ok : ∀ k, k < 2 → parseFieldDescriptor (TX3 k).2.2.1 = some (tyX3 k) := by decide +kernel
abbrev cX3_init : ByteArray := prog_5_method_1_code
def yX3_init : MethodName := ⟨RX3, "<init>", "()V"⟩
abbrev cX3_hasRoom : ByteArray := prog_5_method_2_code
def yX3_hasRoom : MethodName := ⟨RX3, "hasRoom", "()Z"⟩
abbrev cX3_put : ByteArray := prog_5_method_3_code
def yX3_put : MethodName := ⟨RX3, "put", "(I)V"⟩
def RX4 : String := "DilutedDesk$Year"
def TX4 : u_T := fun k => match k with
  | 0 => ("DilutedDesk$Year", "firstShares", "I", false)
  | 1 => ("DilutedDesk$Year", "profits", "[I", true)
  | 2 => ("DilutedDesk$Year", "quarterPrices", "[I", true)
  | 3 => ("DilutedDesk$Year", "eventCount", "I", false)
  | 4 => ("DilutedDesk$Year", "eventSorts", "[I", true)
  | 5 => ("DilutedDesk$Year", "eventDays", "[I", true)
  | 6 => ("DilutedDesk$Year", "eventNumbers", "[I", true)
  | 7 => ("DilutedDesk$Year", "instrumentCount", "I", false)
  | 8 => ("DilutedDesk$Year", "instrumentSorts", "[I", true)
  | 9 => ("DilutedDesk$Year", "instrumentDays", "[I", true)
  | 10 => ("DilutedDesk$Year", "granted", "[I", true)
  | _ => ("DilutedDesk$Year", "terms", "[I", true)
def tyX4 : Nat → FieldType := fun k => match k with
  | 0 => .int
  | 1 => .array .int
  | 2 => .array .int
  | 3 => .int
  | 4 => .array .int
  | 5 => .array .int
  | 6 => .array .int
  | 7 => .int
  | 8 => .array .int
  | 9 => .array .int
  | 10 => .array .int
  | _ => .array .int
abbrev wsX40 : List Cond := u_ws RX4 TX4 12
theorem nmX4 : ∀ a, a < 12 → ∀ b, b < 12 → a ≠ b → (TX4 a).2.1 ≠ (TX4 b).2.1 := by decide +kernel
theorem tyX4_ok : ∀ k, k < 12 → parseFieldDescriptor (TX4 k).2.2.1 = some (tyX4 k) := by decide +kernel
abbrev cX4_init : ByteArray := prog_6_method_1_code
def yX4_init : MethodName := ⟨RX4, "<init>", "()V"⟩
abbrev cX4_reset : ByteArray := prog_6_method_2_code
def yX4_reset : MethodName := ⟨RX4, "reset", "()V"⟩
abbrev cX4_hasInstrument : ByteArray := prog_6_method_3_code
def yX4_hasInstrument : MethodName := ⟨RX4, "hasInstrument", "(I)Z"⟩
abbrev cX4_hasRoomForEvent : ByteArray := prog_6_method_4_code
def yX4_hasRoomForEvent : MethodName := ⟨RX4, "hasRoomForEvent", "(I)Z"⟩
abbrev cX4_hasRoomForInstrument : ByteArray := prog_6_method_5_code
def yX4_hasRoomForInstrument : MethodName := ⟨RX4, "hasRoomForInstrument", "()Z"⟩
abbrev cX4_addEvent : ByteArray := prog_6_method_6_code
def yX4_addEvent : MethodName := ⟨RX4, "addEvent", "(III)V"⟩
abbrev cX4_dropEvent : ByteArray := prog_6_method_7_code
def yX4_dropEvent : MethodName := ⟨RX4, "dropEvent", "()V"⟩
abbrev cX4_addInstrument : ByteArray := prog_6_method_8_code
def yX4_addInstrument : MethodName := ⟨RX4, "addInstrument", "(IIII)V"⟩
abbrev cX4_dropInstrument : ByteArray := prog_6_method_9_code
def yX4_dropInstrument : MethodName := ⟨RX4, "dropInstrument", "()V"⟩
abbrev cX4_splitCount : ByteArray := prog_6_method_10_code
def yX4_splitCount : MethodName := ⟨RX4, "splitCount", "()I"⟩
abbrev cX4_latestDay : ByteArray := prog_6_method_11_code
def yX4_latestDay : MethodName := ⟨RX4, "latestDay", "()I"⟩
abbrev cX4_earliestDay : ByteArray := prog_6_method_12_code
def yX4_earliestDay : MethodName := ⟨RX4, "earliestDay", "()I"⟩
abbrev cX4_leastOfEvent : ByteArray := prog_6_method_13_code
def yX4_leastOfEvent : MethodName := ⟨RX4, "leastOfEvent", "(I)I"⟩
abbrev cX4_mostOfEvent : ByteArray := prog_6_method_14_code
def yX4_mostOfEvent : MethodName := ⟨RX4, "mostOfEvent", "(I)I"⟩
abbrev cX4_sharesOn : ByteArray := prog_6_method_15_code
def yX4_sharesOn : MethodName := ⟨RX4, "sharesOn", "(I)I"⟩
abbrev cX4_restatedOn : ByteArray := prog_6_method_16_code
def yX4_restatedOn : MethodName := ⟨RX4, "restatedOn", "(I)I"⟩
abbrev cX4_splitsBehind : ByteArray := prog_6_method_17_code
def yX4_splitsBehind : MethodName := ⟨RX4, "splitsBehind", "(II)I"⟩
abbrev cX4_weightOf : ByteArray := prog_6_method_18_code
def yX4_weightOf : MethodName := ⟨RX4, "weightOf", "(II)J"⟩
abbrev cX4_earningsOf : ByteArray := prog_6_method_19_code
def yX4_earningsOf : MethodName := ⟨RX4, "earningsOf", "(II)J"⟩
abbrev cX4_oldShares : ByteArray := prog_6_method_20_code
def yX4_oldShares : MethodName := ⟨RX4, "oldShares", "(I)I"⟩
abbrev cX4_profitFloor : ByteArray := prog_6_method_21_code
def yX4_profitFloor : MethodName := ⟨RX4, "profitFloor", "(I)J"⟩
abbrev cX4_addedToWeight : ByteArray := prog_6_method_22_code
def yX4_addedToWeight : MethodName := ⟨RX4, "addedToWeight", "(III)J"⟩
abbrev cX4_addedToEarnings : ByteArray := prog_6_method_23_code
def yX4_addedToEarnings : MethodName := ⟨RX4, "addedToEarnings", "(III)J"⟩
abbrev cX4_addedByOption : ByteArray := prog_6_method_24_code
def yX4_addedByOption : MethodName := ⟨RX4, "addedByOption", "(II)J"⟩
abbrev cX4_scaledPrice : ByteArray := prog_6_method_25_code
def yX4_scaledPrice : MethodName := ⟨RX4, "scaledPrice", "(II)I"⟩
abbrev cX4_daysCounted : ByteArray := prog_6_method_26_code
def yX4_daysCounted : MethodName := ⟨RX4, "daysCounted", "(III)I"⟩
abbrev cX4_dayBehind : ByteArray := prog_6_method_27_code
def yX4_dayBehind : MethodName := ⟨RX4, "dayBehind", "(I)I"⟩
def RX5 : String := "DilutedDesk"
def TX5 : u_T := fun k => match k with
  | 0 => ("DilutedDesk", "tape", "LDilutedDesk$Tape;", true)
  | 1 => ("DilutedDesk", "reader", "LDilutedDesk$Reader;", true)
  | 2 => ("DilutedDesk", "dilution", "LDilutedDesk$Dilution;", true)
  | 3 => ("DilutedDesk", "history", "LDilutedDesk$History;", true)
  | 4 => ("DilutedDesk", "year", "LDilutedDesk$Year;", false)
  | 5 => ("DilutedDesk", "draft", "LDilutedDesk$Year;", false)
  | _ => ("DilutedDesk", "faultKind", "I", false)
def tyX5 : Nat → FieldType := fun k => match k with
  | 0 => .object "DilutedDesk$Tape"
  | 1 => .object "DilutedDesk$Reader"
  | 2 => .object "DilutedDesk$Dilution"
  | 3 => .object "DilutedDesk$History"
  | 4 => .object "DilutedDesk$Year"
  | 5 => .object "DilutedDesk$Year"
  | _ => .int
abbrev wsX50 : List Cond := u_ws RX5 TX5 7
theorem nmX5 : ∀ a, a < 7 → ∀ b, b < 7 → a ≠ b → (TX5 a).2.1 ≠ (TX5 b).2.1 := by decide +kernel
theorem tyX5_ok : ∀ k, k < 7 → parseFieldDescriptor (TX5 k).2.2.1 = some (tyX5 k) := by decide +kernel
abbrev cX5_init : ByteArray := prog_1_method_1_code
def yX5_init : MethodName := ⟨RX5, "<init>", "()V"⟩
abbrev cX5_feed : ByteArray := prog_1_method_2_code
def yX5_feed : MethodName := ⟨RX5, "feed", "(IIIII)I"⟩
abbrev cX5_end : ByteArray := prog_1_method_3_code
def yX5_end : MethodName := ⟨RX5, "end", "(I)Z"⟩
abbrev cX5_text : ByteArray := prog_1_method_4_code
def yX5_text : MethodName := ⟨RX5, "text", "()I"⟩
abbrev cX5_fault : ByteArray := prog_1_method_5_code
def yX5_fault : MethodName := ⟨RX5, "fault", "()I"⟩
abbrev cX5_now : ByteArray := prog_1_method_6_code
def yX5_now : MethodName := ⟨RX5, "now", "(I)I"⟩
abbrev cX5_shares : ByteArray := prog_1_method_7_code
def yX5_shares : MethodName := ⟨RX5, "shares", "(IZ)I"⟩
abbrev cX5_quarter : ByteArray := prog_1_method_8_code
def yX5_quarter : MethodName := ⟨RX5, "quarter", "(II)I"⟩
abbrev cX5_event : ByteArray := prog_1_method_9_code
def yX5_event : MethodName := ⟨RX5, "event", "(II)I"⟩
abbrev cX5_instrument : ByteArray := prog_1_method_10_code
def yX5_instrument : MethodName := ⟨RX5, "instrument", "(II)I"⟩
abbrev cX5_weight : ByteArray := prog_1_method_11_code
def yX5_weight : MethodName := ⟨RX5, "weight", "(II)J"⟩
abbrev cX5_adds : ByteArray := prog_1_method_12_code
def yX5_adds : MethodName := ⟨RX5, "adds", "(IIIZ)J"⟩
abbrev cX5_run : ByteArray := prog_1_method_13_code
def yX5_run : MethodName := ⟨RX5, "run", "(III)I"⟩
abbrev cX5_rank : ByteArray := prog_1_method_14_code
def yX5_rank : MethodName := ⟨RX5, "rank", "(III)I"⟩
abbrev cX5_without : ByteArray := prog_1_method_15_code
def yX5_without : MethodName := ⟨RX5, "without", "(III)I"⟩
abbrev cX5_with : ByteArray := prog_1_method_16_code
def yX5_with : MethodName := ⟨RX5, "with", "(III)I"⟩
abbrev cX5_priced : ByteArray := prog_1_method_17_code
def yX5_priced : MethodName := ⟨RX5, "priced", "(IIII)I"⟩
abbrev cX5_profit : ByteArray := prog_1_method_18_code
def yX5_profit : MethodName := ⟨RX5, "profit", "(IIII)I"⟩
abbrev cX5_ifSplit : ByteArray := prog_1_method_19_code
def yX5_ifSplit : MethodName := ⟨RX5, "ifSplit", "(III)I"⟩
abbrev cX5_tells : ByteArray := prog_1_method_20_code
def yX5_tells : MethodName := ⟨RX5, "tells", "(III)I"⟩
abbrev cX5_grants : ByteArray := prog_1_method_21_code
def yX5_grants : MethodName := ⟨RX5, "grants", "(IIII)I"⟩
abbrev cX5_earns : ByteArray := prog_1_method_22_code
def yX5_earns : MethodName := ⟨RX5, "earns", "(II)I"⟩
abbrev cX5_prices : ByteArray := prog_1_method_23_code
def yX5_prices : MethodName := ⟨RX5, "prices", "(II)I"⟩
abbrev cX5_undo : ByteArray := prog_1_method_24_code
def yX5_undo : MethodName := ⟨RX5, "undo", "()I"⟩
abbrev cX5_requireRun : ByteArray := prog_1_method_25_code
def yX5_requireRun : MethodName := ⟨RX5, "requireRun", "(II)V"⟩
abbrev cX5_isDay : ByteArray := prog_1_method_26_code
def yX5_isDay : MethodName := ⟨RX5, "isDay", "(I)Z"⟩
abbrev cX5_isQuarter : ByteArray := prog_1_method_27_code
def yX5_isQuarter : MethodName := ⟨RX5, "isQuarter", "(I)Z"⟩
abbrev cX5_isPrice : ByteArray := prog_1_method_28_code
def yX5_isPrice : MethodName := ⟨RX5, "isPrice", "(I)Z"⟩
abbrev cX5_leastTerm : ByteArray := prog_1_method_29_code
def yX5_leastTerm : MethodName := ⟨RX5, "leastTerm", "(I)I"⟩
abbrev cX5_mostTerm : ByteArray := prog_1_method_30_code
def yX5_mostTerm : MethodName := ⟨RX5, "mostTerm", "(I)I"⟩
abbrev cX5_dilutedLeavingOut : ByteArray := prog_1_method_31_code
def yX5_dilutedLeavingOut : MethodName := ⟨RX5, "dilutedLeavingOut", "(III)I"⟩
abbrev cX5_leastProfitThatTakesIn : ByteArray := prog_1_method_32_code
def yX5_leastProfitThatTakesIn : MethodName := ⟨RX5, "leastProfitThatTakesIn", "(IIII)I"⟩
def RX6 : String := "DilutedDeskModel"
def TX6 : u_T := fun k => match k with
  | 0 => ("DilutedDeskModel", "thrown", "I", false)
  | 1 => ("DilutedDeskModel", "tape", "[I", true)
  | 2 => ("DilutedDeskModel", "taped", "I", false)
  | 3 => ("DilutedDeskModel", "size", "I", false)
  | 4 => ("DilutedDeskModel", "to", "I", false)
  | 5 => ("DilutedDeskModel", "from", "I", false)
  | 6 => ("DilutedDeskModel", "sort", "I", false)
  | 7 => ("DilutedDeskModel", "number", "I", false)
  | 8 => ("DilutedDeskModel", "fault", "I", false)
  | 9 => ("DilutedDeskModel", "place", "I", false)
  | 10 => ("DilutedDeskModel", "word", "J", false)
  | 11 => ("DilutedDeskModel", "now", "[I", true)
  | 12 => ("DilutedDeskModel", "read", "[I", true)
  | 13 => ("DilutedDeskModel", "snaps", "[I", true)
  | 14 => ("DilutedDeskModel", "snapMany", "I", false)
  | 15 => ("DilutedDeskModel", "weights", "[J", true)
  | 16 => ("DilutedDeskModel", "earns", "[J", true)
  | 17 => ("DilutedDeskModel", "ranks", "[I", true)
  | 18 => ("DilutedDeskModel", "ranked", "I", false)
  | 19 => ("DilutedDeskModel", "taken", "I", false)
  | 20 => ("DilutedDeskModel", "ended", "I", false)
  | 21 => ("DilutedDeskModel", "weightNow", "J", false)
  | _ => ("DilutedDeskModel", "earningsNow", "J", false)
def tyX6 : Nat → FieldType := fun k => match k with
  | 0 => .int
  | 1 => .array .int
  | 2 => .int
  | 3 => .int
  | 4 => .int
  | 5 => .int
  | 6 => .int
  | 7 => .int
  | 8 => .int
  | 9 => .int
  | 10 => .long
  | 11 => .array .int
  | 12 => .array .int
  | 13 => .array .int
  | 14 => .int
  | 15 => .array .long
  | 16 => .array .long
  | 17 => .array .int
  | 18 => .int
  | 19 => .int
  | 20 => .int
  | 21 => .long
  | _ => .long
abbrev wsX60 : List Cond := u_ws RX6 TX6 23
theorem nmX6 : ∀ a, a < 23 → ∀ b, b < 23 → a ≠ b → (TX6 a).2.1 ≠ (TX6 b).2.1 := by decide +kernel
theorem tyX6_ok : ∀ k, k < 23 → parseFieldDescriptor (TX6 k).2.2.1 = some (tyX6 k) := by decide +kernel
abbrev cX6_thrown : ByteArray := prog_8_method_1_code
def yX6_thrown : MethodName := ⟨RX6, "thrown", "()I"⟩
abbrev cX6_refuse : ByteArray := prog_8_method_2_code
def yX6_refuse : MethodName := ⟨RX6, "refuse", "()I"⟩
abbrev cX6_isIn : ByteArray := prog_8_method_3_code
def yX6_isIn : MethodName := ⟨RX6, "isIn", "(III)Z"⟩
abbrev cX6_has : ByteArray := prog_8_method_4_code
def yX6_has : MethodName := ⟨RX6, "has", "(II)Z"⟩
abbrev cX6_lays : ByteArray := prog_8_method_5_code
def yX6_lays : MethodName := ⟨RX6, "lays", "(I)V"⟩
abbrev cX6_feed : ByteArray := prog_8_method_6_code
def yX6_feed : MethodName := ⟨RX6, "feed", "(IIIII)I"⟩
abbrev cX6_end : ByteArray := prog_8_method_7_code
def yX6_end : MethodName := ⟨RX6, "end", "(I)Z"⟩
abbrev cX6_tapeAt : ByteArray := prog_8_method_8_code
def yX6_tapeAt : MethodName := ⟨RX6, "tapeAt", "(I)I"⟩
abbrev cX6_isDigit : ByteArray := prog_8_method_9_code
def yX6_isDigit : MethodName := ⟨RX6, "isDigit", "(I)Z"⟩
abbrev cX6_isLetter : ByteArray := prog_8_method_10_code
def yX6_isLetter : MethodName := ⟨RX6, "isLetter", "(I)Z"⟩
abbrev cX6_go : ByteArray := prog_8_method_11_code
def yX6_go : MethodName := ⟨RX6, "go", "()V"⟩
abbrev cX6_three : ByteArray := prog_8_method_12_code
def yX6_three : MethodName := ⟨RX6, "three", "(III)J"⟩
abbrev cX6_six : ByteArray := prog_8_method_13_code
def yX6_six : MethodName := ⟨RX6, "six", "(IIIIII)J"⟩
abbrev cX6_five : ByteArray := prog_8_method_14_code
def yX6_five : MethodName := ⟨RX6, "five", "(IIIII)J"⟩
abbrev cX6_four : ByteArray := prog_8_method_15_code
def yX6_four : MethodName := ⟨RX6, "four", "(IIII)J"⟩
abbrev cX6_isWord : ByteArray := prog_8_method_16_code
def yX6_isWord : MethodName := ⟨RX6, "isWord", "(J)Z"⟩
abbrev cX6_isProfit : ByteArray := prog_8_method_17_code
def yX6_isProfit : MethodName := ⟨RX6, "isProfit", "()Z"⟩
abbrev cX6_isPrice : ByteArray := prog_8_method_18_code
def yX6_isPrice : MethodName := ⟨RX6, "isPrice", "()Z"⟩
abbrev cX6_bad : ByteArray := prog_8_method_19_code
def yX6_bad : MethodName := ⟨RX6, "bad", "(I)Z"⟩
abbrev cX6_init : ByteArray := prog_8_method_20_code
def yX6_init : MethodName := ⟨RX6, "<init>", "()V"⟩
abbrev cX6_clears : ByteArray := prog_8_method_21_code
def yX6_clears : MethodName := ⟨RX6, "clears", "([I)V"⟩
abbrev cX6_told : ByteArray := prog_8_method_22_code
def yX6_told : MethodName := ⟨RX6, "told", "(III)Z"⟩
abbrev cX6_readShares : ByteArray := prog_8_method_23_code
def yX6_readShares : MethodName := ⟨RX6, "readShares", "()Z"⟩
abbrev cX6_readQuarter : ByteArray := prog_8_method_24_code
def yX6_readQuarter : MethodName := ⟨RX6, "readQuarter", "(I)Z"⟩
abbrev cX6_told_ : ByteArray := prog_8_method_25_code
def yX6_told_ : MethodName := ⟨RX6, "told", "([III)I"⟩
abbrev cX6_splitsOf : ByteArray := prog_8_method_26_code
def yX6_splitsOf : MethodName := ⟨RX6, "splitsOf", "([I)I"⟩
abbrev cX6_sharesOf : ByteArray := prog_8_method_27_code
def yX6_sharesOf : MethodName := ⟨RX6, "sharesOf", "([II)I"⟩
abbrev cX6_lastDay : ByteArray := prog_8_method_28_code
def yX6_lastDay : MethodName := ⟨RX6, "lastDay", "([I)I"⟩
abbrev cX6_mostOf : ByteArray := prog_8_method_29_code
def yX6_mostOf : MethodName := ⟨RX6, "mostOf", "([II)I"⟩
abbrev cX6_readEvent : ByteArray := prog_8_method_30_code
def yX6_readEvent : MethodName := ⟨RX6, "readEvent", "(I)Z"⟩
abbrev cX6_readGrant : ByteArray := prog_8_method_31_code
def yX6_readGrant : MethodName := ⟨RX6, "readGrant", "(I)Z"⟩
abbrev cX6_readOther : ByteArray := prog_8_method_32_code
def yX6_readOther : MethodName := ⟨RX6, "readOther", "()Z"⟩
abbrev cX6_readLine : ByteArray := prog_8_method_33_code
def yX6_readLine : MethodName := ⟨RX6, "readLine", "(I)Z"⟩
abbrev cX6_readEnd : ByteArray := prog_8_method_34_code
def yX6_readEnd : MethodName := ⟨RX6, "readEnd", "()Z"⟩
abbrev cX6_text : ByteArray := prog_8_method_35_code
def yX6_text : MethodName := ⟨RX6, "text", "()I"⟩
abbrev cX6_fault : ByteArray := prog_8_method_36_code
def yX6_fault : MethodName := ⟨RX6, "fault", "()I"⟩
abbrev cX6_isDay : ByteArray := prog_8_method_37_code
def yX6_isDay : MethodName := ⟨RX6, "isDay", "(I)Z"⟩
abbrev cX6_isQuarter : ByteArray := prog_8_method_38_code
def yX6_isQuarter : MethodName := ⟨RX6, "isQuarter", "(I)Z"⟩
abbrev cX6_isInstrument : ByteArray := prog_8_method_39_code
def yX6_isInstrument : MethodName := ⟨RX6, "isInstrument", "(I)Z"⟩
abbrev cX6_its : ByteArray := prog_8_method_40_code
def yX6_its : MethodName := ⟨RX6, "its", "(II)I"⟩
abbrev cX6_scale : ByteArray := prog_8_method_41_code
def yX6_scale : MethodName := ⟨RX6, "scale", "(II)I"⟩
abbrev cX6_restated : ByteArray := prog_8_method_42_code
def yX6_restated : MethodName := ⟨RX6, "restated", "(I)I"⟩
abbrev cX6_old : ByteArray := prog_8_method_43_code
def yX6_old : MethodName := ⟨RX6, "old", "(I)I"⟩
abbrev cX6_now : ByteArray := prog_8_method_44_code
def yX6_now : MethodName := ⟨RX6, "now", "(I)I"⟩
abbrev cX6_shares : ByteArray := prog_8_method_45_code
def yX6_shares : MethodName := ⟨RX6, "shares", "(IZ)I"⟩
abbrev cX6_quarter : ByteArray := prog_8_method_46_code
def yX6_quarter : MethodName := ⟨RX6, "quarter", "(II)I"⟩
abbrev cX6_event : ByteArray := prog_8_method_47_code
def yX6_event : MethodName := ⟨RX6, "event", "(II)I"⟩
abbrev cX6_instrument : ByteArray := prog_8_method_48_code
def yX6_instrument : MethodName := ⟨RX6, "instrument", "(II)I"⟩
abbrev cX6_isRun : ByteArray := prog_8_method_49_code
def yX6_isRun : MethodName := ⟨RX6, "isRun", "(II)Z"⟩
abbrev cX6_weightOf : ByteArray := prog_8_method_50_code
def yX6_weightOf : MethodName := ⟨RX6, "weightOf", "(II)J"⟩
abbrev cX6_earningsOf : ByteArray := prog_8_method_51_code
def yX6_earningsOf : MethodName := ⟨RX6, "earningsOf", "(II)I"⟩
abbrev cX6_counts : ByteArray := prog_8_method_52_code
def yX6_counts : MethodName := ⟨RX6, "counts", "(III)I"⟩
abbrev cX6_priceOf : ByteArray := prog_8_method_53_code
def yX6_priceOf : MethodName := ⟨RX6, "priceOf", "(II)I"⟩
abbrev cX6_byOption : ByteArray := prog_8_method_54_code
def yX6_byOption : MethodName := ⟨RX6, "byOption", "(II)J"⟩
abbrev cX6_addsWeight : ByteArray := prog_8_method_55_code
def yX6_addsWeight : MethodName := ⟨RX6, "addsWeight", "(III)J"⟩
abbrev cX6_addsEarnings : ByteArray := prog_8_method_56_code
def yX6_addsEarnings : MethodName := ⟨RX6, "addsEarnings", "(III)J"⟩
abbrev cX6_weight : ByteArray := prog_8_method_57_code
def yX6_weight : MethodName := ⟨RX6, "weight", "(II)J"⟩
abbrev cX6_adds : ByteArray := prog_8_method_58_code
def yX6_adds : MethodName := ⟨RX6, "adds", "(IIIZ)J"⟩
abbrev cX6_isAhead : ByteArray := prog_8_method_59_code
def yX6_isAhead : MethodName := ⟨RX6, "isAhead", "(II)Z"⟩
abbrev cX6_reckons : ByteArray := prog_8_method_60_code
def yX6_reckons : MethodName := ⟨RX6, "reckons", "(III)V"⟩
abbrev cX6_takes : ByteArray := prog_8_method_61_code
def yX6_takes : MethodName := ⟨RX6, "takes", "(I)V"⟩
abbrev cX6_share : ByteArray := prog_8_method_62_code
def yX6_share : MethodName := ⟨RX6, "share", "(JJII)I"⟩
abbrev cX6_diluted : ByteArray := prog_8_method_63_code
def yX6_diluted : MethodName := ⟨RX6, "diluted", "(III)I"⟩
abbrev cX6_run : ByteArray := prog_8_method_64_code
def yX6_run : MethodName := ⟨RX6, "run", "(III)I"⟩
abbrev cX6_rank : ByteArray := prog_8_method_65_code
def yX6_rank : MethodName := ⟨RX6, "rank", "(III)I"⟩
abbrev cX6_without : ByteArray := prog_8_method_66_code
def yX6_without : MethodName := ⟨RX6, "without", "(III)I"⟩
abbrev cX6_with : ByteArray := prog_8_method_67_code
def yX6_with : MethodName := ⟨RX6, "with", "(III)I"⟩
abbrev cX6_dilutedBy : ByteArray := prog_8_method_68_code
def yX6_dilutedBy : MethodName := ⟨RX6, "dilutedBy", "(IIII)I"⟩
abbrev cX6_priced : ByteArray := prog_8_method_69_code
def yX6_priced : MethodName := ⟨RX6, "priced", "(IIII)I"⟩
abbrev cX6_profit : ByteArray := prog_8_method_70_code
def yX6_profit : MethodName := ⟨RX6, "profit", "(IIII)I"⟩
abbrev cX6_adds_ : ByteArray := prog_8_method_71_code
def yX6_adds_ : MethodName := ⟨RX6, "adds", "(III)V"⟩
abbrev cX6_isFull : ByteArray := prog_8_method_72_code
def yX6_isFull : MethodName := ⟨RX6, "isFull", "(I)Z"⟩
abbrev cX6_ifSplit : ByteArray := prog_8_method_73_code
def yX6_ifSplit : MethodName := ⟨RX6, "ifSplit", "(III)I"⟩
abbrev cX6_snap : ByteArray := prog_8_method_74_code
def yX6_snap : MethodName := ⟨RX6, "snap", "()V"⟩
abbrev cX6_tells : ByteArray := prog_8_method_75_code
def yX6_tells : MethodName := ⟨RX6, "tells", "(III)I"⟩
abbrev cX6_grants : ByteArray := prog_8_method_76_code
def yX6_grants : MethodName := ⟨RX6, "grants", "(IIII)I"⟩
abbrev cX6_becomes : ByteArray := prog_8_method_77_code
def yX6_becomes : MethodName := ⟨RX6, "becomes", "(II)I"⟩
abbrev cX6_earns : ByteArray := prog_8_method_78_code
def yX6_earns : MethodName := ⟨RX6, "earns", "(II)I"⟩
abbrev cX6_prices : ByteArray := prog_8_method_79_code
def yX6_prices : MethodName := ⟨RX6, "prices", "(II)I"⟩
abbrev cX6_undo : ByteArray := prog_8_method_80_code
def yX6_undo : MethodName := ⟨RX6, "undo", "()I"⟩
def RL : String := "DilutedDeskLaw"
abbrev cL_quarter : ByteArray := method_3_code
def yL_quarter : MethodName := ⟨RL, "quarter", "(LDilutedDesk;II[J)I"⟩
abbrev cL_weight : ByteArray := method_4_code
def yL_weight : MethodName := ⟨RL, "weight", "(LDilutedDesk;II[J)I"⟩
abbrev cL_adds : ByteArray := method_5_code
def yL_adds : MethodName := ⟨RL, "adds", "(LDilutedDesk;IIIZ[J)I"⟩
abbrev cL_run : ByteArray := method_6_code
def yL_run : MethodName := ⟨RL, "run", "(LDilutedDesk;III[J)I"⟩
abbrev cL_rank : ByteArray := method_7_code
def yL_rank : MethodName := ⟨RL, "rank", "(LDilutedDesk;III[J)I"⟩
abbrev cL_without : ByteArray := method_8_code
def yL_without : MethodName := ⟨RL, "without", "(LDilutedDesk;III[J)I"⟩
abbrev cL_with : ByteArray := method_9_code
def yL_with : MethodName := ⟨RL, "with", "(LDilutedDesk;III[J)I"⟩
abbrev cL_priced : ByteArray := method_10_code
def yL_priced : MethodName := ⟨RL, "priced", "(LDilutedDesk;IIII[J)I"⟩
abbrev cL_profit : ByteArray := method_11_code
def yL_profit : MethodName := ⟨RL, "profit", "(LDilutedDesk;IIII[J)I"⟩
abbrev cL_ifSplit : ByteArray := method_12_code
def yL_ifSplit : MethodName := ⟨RL, "ifSplit", "(LDilutedDesk;III[J)I"⟩
abbrev cL_law : ByteArray := code
def yL_law : MethodName := ⟨RL, "law", "([I)Z"⟩
abbrev vwCl : List vw_C := [(RX0, TX0, 12), (RX1, TX1, 4), (RX2, TX2, 7), (RX3, TX3, 2), (RX4, TX4, 12), (RX5, TX5, 7), (RX6, TX6, 23)]
end
section
/-! THE PURE MACHINE: worlds are functions from names of cells (numbers) to cells; a step is a function -/
abbrev pm_L : Type := List (Option Value)
abbrev pm_H : Type := Nat → Option va_E
abbrev pm_C : Type := Nat × pm_L × List Value × pm_H
def pm_up (w : pm_H) (k : Nat) (e : va_E) : pm_H := fun j => if j = k then some e else w j
def pm_vk (v : Value) : Nat := match v with
  | .int _ => 0
  | .long _ => 1
  | .ref _ => 2
  | _ => 9
def pm_gf (o : Option va_E) (ci k : Nat) : Option Value := match o with
  | some (.inr (c, fs)) => if c = ci then fs[k]? else none
  | _ => none
def pm_pf (w : pm_H) (a : Nat) (o : Option va_E) (ci k t : Nat) (v : Value) : Option pm_H := match o with
  | some (.inr (c, fs)) => if c = ci ∧ k < fs.length ∧ pm_vk v = t then some (pm_up w a (.inr (ci, fs.set k v))) else none
  | _ => none
def pm_ia (o : Option va_E) (t : Nat) (i : Int32) : Option Value := match o with
  | some (.inl (ty, n, .inl f)) => if ty = t then (if i < 0 ∨ n ≤ i.toNatClampNeg then none else some (.int (f i.toNatClampNeg))) else none
  | _ => none
def pm_la (o : Option va_E) (i : Int32) : Option Value := match o with
  | some (.inl (ty, n, .inr (.inl f))) => if ty = 1 then (if i < 0 ∨ n ≤ i.toNatClampNeg then none else some (.long (f i.toNatClampNeg))) else none
  | _ => none
def pm_is (w : pm_H) (a : Nat) (o : Option va_E) (i x : Int32) : Option pm_H := match o with
  | some (.inl (ty, n, .inl f)) => if ty = 0 then (if i < 0 ∨ n ≤ i.toNatClampNeg then none else some (pm_up w a (.inl (0, n, .inl (upd f i.toNatClampNeg x))))) else none
  | _ => none
def pm_bs (w : pm_H) (a : Nat) (o : Option va_E) (i x : Int32) : Option pm_H := match o with
  | some (.inl (ty, n, .inl f)) => if ty = 2 then (if i < 0 ∨ n ≤ i.toNatClampNeg then none else some (pm_up w a (.inl (2, n, .inl (upd f i.toNatClampNeg (vp_nar .byte x)))))) else none
  | _ => none
def pm_ls (w : pm_H) (a : Nat) (o : Option va_E) (i : Int32) (x : Int64) : Option pm_H := match o with
  | some (.inl (ty, n, .inr (.inl f))) => if ty = 1 then (if i < 0 ∨ n ≤ i.toNatClampNeg then none else some (pm_up w a (.inl (1, n, .inr (.inl (vp_updL f i.toNatClampNeg x)))))) else none
  | _ => none
/-- no long or double lies in the place ahead of k -/
def pm_no (pl : pm_L) (k : Nat) : Bool := match k with
  | 0 => true
  | j + 1 => match pl[j]? with
    | some (some (.long _)) => false
    | some (some (.double _)) => false
    | _ => true
def pm_sto (pl : pm_L) (k : Nat) (v : Value) : Option pm_L := match v with
  | .long _ => if k + 1 < pl.length ∧ pm_no pl k = true then some ((pl.set k (some v)).set (k + 1) none) else none
  | .double _ => none
  | _ => if k < pl.length ∧ pm_no pl k = true then some (pl.set k (some v)) else none
def pm_kc (i : Instr) : Option (Nat × Value) := match i with
  | .iconst n => some (1, .int (Int32.ofInt n))
  | .bipush n => some (2, .int (Int8.ofInt n).toInt32)
  | .sipush n => some (3, .int (Int16.ofInt n).toInt32)
  | .lconst n => some (1, .long (Int64.ofNat (n : Nat)))
  | _ => none
def pm_kl (i : Instr) : Option (Nat × Nat × Nat) := match i with
  | .iload_n k => some (1, k, 0)
  | .iload k => some (2, k, 0)
  | .lload_n k => some (1, k, 1)
  | .lload k => some (2, k, 1)
  | .aload_n k => some (1, k, 2)
  | .aload k => some (2, k, 2)
  | _ => none
def pm_ks (i : Instr) : Option (Nat × Nat × Nat) := match i with
  | .istore_n k => some (1, k, 0)
  | .istore k => some (2, k, 0)
  | .lstore_n k => some (1, k, 1)
  | .lstore k => some (2, k, 1)
  | .astore_n k => some (1, k, 2)
  | .astore k => some (2, k, 2)
  | _ => none
def pm_k2 (i : Instr) : Option (Int32 → Int32 → Int32) := match i with
  | .iadd => some (fun x y => x + y)
  | .isub => some (fun x y => x - y)
  | .imul => some (fun x y => x * y)
  | .iand => some (fun x y => x &&& y)
  | .ior => some (fun x y => x ||| y)
  | .ishl => some (fun x y => x <<< (y &&& 31))
  | .ishr => some (fun x y => x >>> (y &&& 31))
  | .iushr => some (fun x y => (x.toUInt32 >>> (y.toUInt32 &&& Int32.toUInt32 31)).toInt32)
  | _ => none
def pm_k3 (i : Instr) : Option (Int64 → Int64 → Int64) := match i with
  | .ladd => some (fun x y => x + y)
  | .lsub => some (fun x y => x - y)
  | .lmul => some (fun x y => x * y)
  | .lxor => some (fun x y => x ^^^ y)
  | _ => none
def pm_tg (pc : Nat) (off : Int) : Nat := ((pc : Int) + off).toNat
/-- constants, loads -/
def pm_sA (i : Instr) (len pc : Nat) (pl : pm_L) (st : List Value) (w : pm_H) : Option pm_C := match pm_kc i with
  | some (n, v) => if len = n then some (pc + n, pl, v :: st, w) else none
  | none => none
def pm_sB (i : Instr) (len pc : Nat) (pl : pm_L) (st : List Value) (w : pm_H) : Option pm_C := match pm_kl i with
  | some (n, k, t) => if len = n then (match pl[k]? with
    | some (some v) => if pm_vk v = t then some (pc + n, pl, v :: st, w) else none
    | _ => none) else none
  | none => none
def pm_sC (i : Instr) (len pc : Nat) (pl : pm_L) (st : List Value) (w : pm_H) : Option pm_C := match pm_ks i with
  | some (n, k, t) => if len = n then (match st with
    | v :: r => if pm_vk v = t then (match pm_sto pl k v with
      | some pl' => some (pc + n, pl', r, w)
      | none => none) else none
    | _ => none) else none
  | none => none
def pm_sD (i : Instr) (len pc : Nat) (pl : pm_L) (st : List Value) (w : pm_H) : Option pm_C := match pm_k2 i with
  | some f => (match st with
    | .int y :: .int x :: r => if len = 1 then some (pc + 1, pl, .int (f x y) :: r, w) else none
    | _ => none)
  | none => none
def pm_sE (i : Instr) (len pc : Nat) (pl : pm_L) (st : List Value) (w : pm_H) : Option pm_C := match pm_k3 i with
  | some f => (match st with
    | .long y :: .long x :: r => if len = 1 then some (pc + 1, pl, .long (f x y) :: r, w) else none
    | _ => none)
  | none => none
/-- the rest of the numbers -/
def pm_sF (i : Instr) (len pc : Nat) (pl : pm_L) (st : List Value) (w : pm_H) : Option pm_C := match i, st with
  | .ineg, .int x :: r => if len = 1 then some (pc + 1, pl, .int (-x) :: r, w) else none
  | .i2l, .int x :: r => if len = 1 then some (pc + 1, pl, .long x.toInt64 :: r, w) else none
  | .l2i, .long x :: r => if len = 1 then some (pc + 1, pl, .int x.toInt32 :: r, w) else none
  | .i2b, .int x :: r => if len = 1 then some (pc + 1, pl, .int x.toInt8.toInt32 :: r, w) else none
  | .ldiv, .long y :: .long x :: r => if len = 1 then (if y = 0 then none else some (pc + 1, pl, .long (x / y) :: r, w)) else none
  | .lcmp, .long y :: .long x :: r => if len = 1 then some (pc + 1, pl, .int (lg_cmp x y) :: r, w) else none
  | .dup, v :: r => if len = 1 ∧ v.category = 1 then some (pc + 1, pl, v :: v :: r, w) else none
  | .dup2, v :: u :: r => if len = 1 ∧ v.category = 1 ∧ u.category = 1 then some (pc + 1, pl, v :: u :: v :: u :: r, w) else none
  | .pop, v :: r => if len = 1 ∧ v.category = 1 then some (pc + 1, pl, r, w) else none
  | .iinc k n, st => if len = 3 then (match pl[k]? with
    | some (some (.int x)) => (match pm_sto pl k (.int (x + Int32.ofInt n)) with
      | some pl' => some (pc + 3, pl', st, w)
      | none => none)
    | _ => none) else none
  | _, _ => none
def pm_cc (c : Jvm.ClassFile.Cond) (x y : Int32) : Prop := match c with
  | .eq => x = y
  | .ne => ¬ x = y
  | .lt => x < y
  | .ge => y ≤ x
  | .gt => y < x
  | .le => x ≤ y
def pm_cd (c : Jvm.ClassFile.Cond) (x y : Int32) : Decidable (pm_cc c x y) := match c with
  | .eq => inferInstanceAs (Decidable (x = y))
  | .ne => inferInstanceAs (Decidable (¬ x = y))
  | .lt => inferInstanceAs (Decidable (x < y))
  | .ge => inferInstanceAs (Decidable (y ≤ x))
  | .gt => inferInstanceAs (Decidable (y < x))
  | .le => inferInstanceAs (Decidable (x ≤ y))
/-- branches -/
def pm_sG (i : Instr) (len pc : Nat) (pl : pm_L) (st : List Value) (w : pm_H) : Option pm_C := match i, st with
  | .ifCond cn off, .int x :: r => if len = 3 ∧ 0 ≤ (pc : Int) + off then some (@ite _ (pm_cc cn x 0) (pm_cd cn x 0) (pm_tg pc off, pl, r, w) (pc + 3, pl, r, w)) else none
  | .if_icmp cn off, .int y :: .int x :: r => if len = 3 ∧ 0 ≤ (pc : Int) + off then some (@ite _ (pm_cc cn x y) (pm_cd cn x y) (pm_tg pc off, pl, r, w) (pc + 3, pl, r, w)) else none
  | .goto off, r => if len = 3 ∧ 0 ≤ (pc : Int) + off then some (pm_tg pc off, pl, r, w) else none
  | .tableswitch d lo hi offs, .int x :: r => if x.toInt < lo ∨ hi < x.toInt then (if 0 ≤ (pc : Int) + d then some (pm_tg pc d, pl, r, w) else none) else (match offs[(x.toInt - lo).toNat]? with
    | some off => if 0 ≤ (pc : Int) + off then some (pm_tg pc off, pl, r, w) else none
    | none => none)
  | .lookupswitch d ps, .int x :: r => if (ps.toList.zip (ps.toList.drop 1)).all (fun (a, next) => a.1 < next.1) = true ∧ 0 ≤ (pc : Int) + Op.lookupswitch.offset ps.toList d x.toInt then some (pm_tg pc (Op.lookupswitch.offset ps.toList d x.toInt), pl, r, w) else none
  | _, _ => none
def pm_or (a b : Option pm_C) : Option pm_C := match a with
  | some c => some c
  | none => b
theorem pm_or_some {a b : Option pm_C} {c : pm_C} (h : pm_or a b = some c) : a = some c ∨ b = some c := by
  cases a with
  | none => exact Or.inr h
  | some x => exact Or.inl h
/-- the cells: F: (own class, pool number) to (class, slot, kind, final) -/
def pm_sH (F : Nat → Option (Nat × Nat × Nat × Bool)) (K : Nat → Option Value) (i : Instr) (len pc : Nat) (pl : pm_L) (st : List Value) (w : pm_H) : Option pm_C := match i, st with
  | .getfield ix, .ref a :: r => if len = 3 then (match F ix with
    | some (ci, k, _, _) => (match pm_gf (w a) ci k with
      | some v => some (pc + 3, pl, v :: r, w)
      | none => none)
    | none => none) else none
  | .putfield ix, v :: .ref a :: r => if len = 3 then (match F ix with
    | some (ci, k, t, false) => (match pm_pf w a (w a) ci k t v with
      | some w' => some (pc + 3, pl, r, w')
      | none => none)
    | _ => none) else none
  | .iaload, .int i :: .ref a :: r => if len = 1 then (match pm_ia (w a) 0 i with
    | some v => some (pc + 1, pl, v :: r, w)
    | none => none) else none
  | .baload, .int i :: .ref a :: r => if len = 1 then (match pm_ia (w a) 2 i with
    | some v => some (pc + 1, pl, v :: r, w)
    | none => none) else none
  | .laload, .int i :: .ref a :: r => if len = 1 then (match pm_la (w a) i with
    | some v => some (pc + 1, pl, v :: r, w)
    | none => none) else none
  | .iastore, .int x :: .int i :: .ref a :: r => if len = 1 then (match pm_is w a (w a) i x with
    | some w' => some (pc + 1, pl, r, w')
    | none => none) else none
  | .bastore, .int x :: .int i :: .ref a :: r => if len = 1 then (match pm_bs w a (w a) i x with
    | some w' => some (pc + 1, pl, r, w')
    | none => none) else none
  | .lastore, .long x :: .int i :: .ref a :: r => if len = 1 then (match pm_ls w a (w a) i x with
    | some w' => some (pc + 1, pl, r, w')
    | none => none) else none
  | .ldc ix, r => if len = 2 then (match K ix with
    | some v => if pm_vk v = 1 then none else some (pc + 2, pl, v :: r, w)
    | none => none) else none
  | .ldc_w ix, r => if len = 3 then (match K ix with
    | some v => if pm_vk v = 0 then some (pc + 3, pl, v :: r, w) else none
    | none => none) else none
  | .ldc2_w ix, r => if len = 3 then (match K ix with
    | some v => if pm_vk v = 1 then some (pc + 3, pl, v :: r, w) else none
    | none => none) else none
  | _, _ => none
def pm_s (F : Nat → Option (Nat × Nat × Nat × Bool)) (K : Nat → Option Value) (i : Instr) (len pc : Nat) (pl : pm_L) (st : List Value) (w : pm_H) : Option pm_C :=
  pm_or (pm_sA i len pc pl st w) (pm_or (pm_sB i len pc pl st w) (pm_or (pm_sC i len pc pl st w) (pm_or (pm_sD i len pc pl st w) (pm_or (pm_sE i len pc pl st w) (pm_or (pm_sF i len pc pl st w) (pm_or (pm_sG i len pc pl st w) (pm_sH F K i len pc pl st w)))))))
/-! ===== its soundness, instruction by instruction ===== -/
def pm_rn (ρ : Nat → Nat) (v : Value) : Value := match v with
  | .ref k => .ref (ρ k)
  | v => v
def pm_cv (ρ : Nat → Nat) (τ : Nat → ClassId) (e : va_E) : va_E := match e with
  | .inl (t, a) => .inl (τ t, a)
  | .inr (ci, fs) => .inr (ci, fs.map (pm_rn ρ))
def pm_lh (ρ : Nat → Nat) (ls : Array Slot) (pl : pm_L) : Prop := ls.size = pl.length ∧ lv_wf ls ∧ ∀ (i : Nat) (v : Value), pl[i]? = some (some v) → ls[i]? = some (.val (pm_rn ρ v))
def pm_Sim (ρ : Nat → Nat) (τ : Nat → ClassId) (D : va_G) (sz : Nat) (w : pm_H) (H : Heap) : Prop :=
  (∀ (k : Nat) (e : va_E), w k = some e → va_at D vwCl (ρ k, pm_cv ρ τ e) H ∧ sz ≤ ρ k) ∧ ∀ (k j : Nat) (e f : va_E), w k = some e → w j = some f → ρ k = ρ j → k = j
def pm_lv (ρ : Nat → Nat) (pl : pm_L) : List (Nat × Value) := (List.range pl.length).filterMap (fun i => match pl[i]? with
  | some (some v) => some (i, pm_rn ρ v)
  | _ => none)
theorem pm_lv_mem {ρ : Nat → Nat} {pl : pm_L} {i : Nat} {u : Value} : (i, u) ∈ pm_lv ρ pl ↔ ∃ v, pl[i]? = some (some v) ∧ u = pm_rn ρ v := by
  unfold pm_lv
  rw [List.mem_filterMap]
  constructor
  · rintro ⟨j, hj, h⟩
    split at h
    · rename_i v hv
      cases h
      exact ⟨v, hv, rfl⟩
    · cases h
  · rintro ⟨v, hv, rfl⟩
    refine ⟨i, List.mem_range.mpr (List.getElem?_eq_some_iff.mp hv).1, ?_⟩
    rw [hv]
theorem pm_lh.has {ρ : Nat → Nat} {ls : Array Slot} {pl : pm_L} (h : pm_lh ρ ls pl) : lv_has ls pl.length (pm_lv ρ pl) := by
  refine ⟨h.1, h.2.1, fun q hq => ?_⟩
  obtain ⟨i, u⟩ := q
  obtain ⟨v, hv, rfl⟩ := pm_lv_mem.mp hq
  exact h.2.2 i v hv
theorem pm_cat (ρ : Nat → Nat) (v : Value) : (pm_rn ρ v).category = v.category := by cases v <;> rfl
theorem pm_no_spec {pl : pm_L} {k j : Nat} {u : Value} (h : pm_no pl k = true) (hj : j + 1 = k) (hu : pl[j]? = some (some u)) : ¬ u.category = 2 := by
  subst hj
  simp only [pm_no, hu] at h
  cases u <;> first | (intro h2; cases h2; done) | (cases h; done)
/-- storing a value of one word -/
theorem pm_lh.set1 {ρ : Nat → Nat} {ls' : Array Slot} {pl : pm_L} {k : Nat} {v : Value} (hk : k < pl.length) (hno : pm_no pl k = true)
    (h : lv_has ls' pl.length ((k, pm_rn ρ v) :: (pm_lv ρ pl).filter (fun q => !(q.1 == k) && !(q.1 + 1 == k && q.2.category == 2)))) : pm_lh ρ ls' (pl.set k (some v)) := by
  refine ⟨by rw [h.1, List.length_set], h.2.1, fun i u hu => ?_⟩
  by_cases hik : i = k
  · subst hik
    rw [List.getElem?_set_self hk] at hu
    cases hu
    exact h.2.2 (i, pm_rn ρ v) List.mem_cons_self
  · rw [List.getElem?_set_ne (Ne.symm hik)] at hu
    refine h.2.2 (i, pm_rn ρ u) (List.mem_cons_of_mem _ (List.mem_filter.mpr ⟨pm_lv_mem.mpr ⟨u, hu, rfl⟩, ?_⟩))
    have h1 : (i == k) = false := by simp [hik]
    have h2 : (i + 1 == k && (pm_rn ρ u).category == 2) = false := by
      by_cases hi : i + 1 = k
      · have := pm_no_spec hno hi hu
        rw [pm_cat]
        simp [this]
      · simp [hi]
    show (!(i == k) && !(i + 1 == k && (pm_rn ρ u).category == 2)) = true
    rw [h1, h2]
    rfl
/-- storing a long -/
theorem pm_lh.set2 {ρ : Nat → Nat} {ls' : Array Slot} {pl : pm_L} {k : Nat} {v : Value} (hk : k + 1 < pl.length) (hno : pm_no pl k = true)
    (h : lv_has ls' pl.length ((k, pm_rn ρ v) :: (pm_lv ρ pl).filter (fun q => !(q.1 == k) && (!(q.1 == k + 1) && !(q.1 + 1 == k && q.2.category == 2))))) : pm_lh ρ ls' ((pl.set k (some v)).set (k + 1) none) := by
  refine ⟨by rw [h.1, List.length_set, List.length_set], h.2.1, fun i u hu => ?_⟩
  by_cases hi1 : i = k + 1
  · subst hi1
    rw [List.getElem?_set_self (by rw [List.length_set]; exact hk)] at hu
    cases hu
  rw [List.getElem?_set_ne (Ne.symm hi1)] at hu
  by_cases hik : i = k
  · subst hik
    rw [List.getElem?_set_self (by omega)] at hu
    cases hu
    exact h.2.2 (i, pm_rn ρ v) List.mem_cons_self
  · rw [List.getElem?_set_ne (Ne.symm hik)] at hu
    refine h.2.2 (i, pm_rn ρ u) (List.mem_cons_of_mem _ (List.mem_filter.mpr ⟨pm_lv_mem.mpr ⟨u, hu, rfl⟩, ?_⟩))
    have h1 : (i == k) = false := by simp [hik]
    have h3 : (i == k + 1) = false := by simp [hi1]
    have h2 : (i + 1 == k && (pm_rn ρ u).category == 2) = false := by
      by_cases hi : i + 1 = k
      · have := pm_no_spec hno hi hu
        rw [pm_cat]
        simp [this]
      · simp [hi]
    show (!(i == k) && (!(i == k + 1) && !(i + 1 == k && (pm_rn ρ u).category == 2))) = true
    rw [h1, h2, h3]
    rfl
section PMW
variable {p : Program} {l : Launch} {e : Env} {R : Room} {s : State} {m : MethodId} {args : Array Value} {below : List Frame} {meth : Method} {c : Code} {cells slots : Nat} {Q : State → Prop}
variable {ρ : Nat → Nat} {τ : Nat → ClassId} {D : va_G} {sz : Nat} {cc : ByteArray} {i : Instr} {len pc : Nat} {pl : pm_L} {st : List Value} {w : pm_H} {cf : pm_C}
/-- from a configuration the machine comes to Q -/
def pm_K (p : Program) (l : Launch) (e : Env) (R : Room) (s : State) (m : MethodId) (args : Array Value) (below : List Frame) (meth : Method) (c : Code) (cells slots : Nat) (Q : State → Prop) (ρ : Nat → Nat) (τ : Nat → ClassId) (D : va_G) (sz : Nat) (cf : pm_C) : Prop :=
  ∀ (H : Heap) (locs : List Loc) (ls : Array Slot), pm_Sim ρ τ D sz cf.2.2.2 H → va_S (fun q => sz ≤ q) s.heap H locs → pm_lh ρ ls cf.2.1 → W p l e R s m args below meth c H locs cells slots Q (F0 m cf.1 ls (cf.2.2.1.map (pm_rn ρ)))
theorem pm_sA_ok (hx : p.tables.exec = Jvm.exec) (hb : c.code = cc) (hd : decode cc pc = .ok (i, len)) (hs : pm_sA i len pc pl st w = some cf) (k : pm_K p l e R s m args below meth c cells slots Q ρ τ D sz cf) : pm_K p l e R s m args below meth c cells slots Q ρ τ D sz (pc, pl, st, w) := by
  intro H locs ls hSim hS hl
  unfold pm_sA at hs
  split at hs
  · rename_i n v hk
    split at hs
    · rename_i hn
      subst hn
      cases hs
      have k := k H locs ls hSim hS hl
      unfold pm_kc at hk
      split at hk
      · cases hk; exact lv_iconst hx hb hd rfl k
      · cases hk; exact lv_bipush hx hb hd rfl k
      · cases hk; exact lv_sipush hx hb hd rfl k
      · cases hk; exact lv_lconst hx hb hd rfl k
      · cases hk
    · cases hs
  · cases hs
theorem pm_sB_ok (hx : p.tables.exec = Jvm.exec) (hb : c.code = cc) (hd : decode cc pc = .ok (i, len)) (hs : pm_sB i len pc pl st w = some cf) (k : pm_K p l e R s m args below meth c cells slots Q ρ τ D sz cf) : pm_K p l e R s m args below meth c cells slots Q ρ τ D sz (pc, pl, st, w) := by
  intro H locs ls hSim hS hl
  unfold pm_sB at hs
  split at hs
  · rename_i n j t hk
    split at hs
    · rename_i hn
      subst hn
      split at hs
      · rename_i v hv
        split at hs
        · rename_i ht
          cases hs
          have k := k H locs ls hSim hS hl
          have hlv := hl.2.2 j v hv
          unfold pm_kl at hk
          split at hk <;> cases hk
          · cases v <;> first | (cases ht; done) | exact lv_iload_n hx hb hd rfl hlv k
          · cases v <;> first | (cases ht; done) | exact lv_iload hx hb hd hlv k
          · cases v <;> first | (cases ht; done) | exact lv_lload_n hx hb hd rfl hlv k
          · cases v <;> first | (cases ht; done) | exact lv_lload hx hb hd hlv k
          · cases v <;> first | (cases ht; done) | exact lv_aload_n hx hb hd rfl hlv k
          · cases v <;> first | (cases ht; done) | exact lv_aload hx hb hd hlv k
        · cases hs
      · cases hs
    · cases hs
  · cases hs
theorem pm_sC_ok (hx : p.tables.exec = Jvm.exec) (hb : c.code = cc) (hd : decode cc pc = .ok (i, len)) (hs : pm_sC i len pc pl st w = some cf) (k : pm_K p l e R s m args below meth c cells slots Q ρ τ D sz cf) : pm_K p l e R s m args below meth c cells slots Q ρ τ D sz (pc, pl, st, w) := by
  intro H locs ls hSim hS hl
  unfold pm_sC at hs
  split at hs
  · rename_i n j t hk
    split at hs
    · rename_i hn
      subst hn
      split at hs
      · rename_i v r
        split at hs
        · rename_i ht
          split at hs
          · rename_i pl' hpl
            cases hs
            have hh := hl.has
            unfold pm_ks at hk
            split at hk <;> cases hk <;> cases v <;> (try (cases ht; done)) <;> simp only [pm_sto] at hpl <;> split at hpl <;> (try (cases hpl; done)) <;> rename_i hc <;> cases hpl
            · exact lv_istore_n hx hb hd rfl hh hc.1 rfl (fun ls' h => k H locs ls' hSim hS (pm_lh.set1 hc.1 hc.2 h))
            · exact lv_istore hx hb hd hh hc.1 rfl (fun ls' h => k H locs ls' hSim hS (pm_lh.set1 hc.1 hc.2 h))
            · exact lv_lstore_n hx hb hd rfl hh hc.1 rfl (fun ls' h => k H locs ls' hSim hS (pm_lh.set2 hc.1 hc.2 h))
            · exact lv_lstore hx hb hd hh hc.1 rfl (fun ls' h => k H locs ls' hSim hS (pm_lh.set2 hc.1 hc.2 h))
            · exact lv_astore_n hx hb hd rfl hh hc.1 rfl (fun ls' h => k H locs ls' hSim hS (pm_lh.set1 hc.1 hc.2 h))
            · exact lv_astore hx hb hd hh hc.1 rfl (fun ls' h => k H locs ls' hSim hS (pm_lh.set1 hc.1 hc.2 h))
          · cases hs
        · cases hs
      · cases hs
    · cases hs
  · cases hs
theorem pm_sD_ok (hx : p.tables.exec = Jvm.exec) (hb : c.code = cc) (hd : decode cc pc = .ok (i, len)) (hs : pm_sD i len pc pl st w = some cf) (k : pm_K p l e R s m args below meth c cells slots Q ρ τ D sz cf) : pm_K p l e R s m args below meth c cells slots Q ρ τ D sz (pc, pl, st, w) := by
  intro H locs ls hSim hS hl
  unfold pm_sD at hs
  split at hs
  · rename_i f hk
    split at hs
    · split at hs
      · rename_i hn
        subst hn
        cases hs
        have k := k H locs ls hSim hS hl
        unfold pm_k2 at hk
        split at hk <;> cases hk
        · exact lv_iadd hx hb hd k
        · exact lv_isub hx hb hd k
        · exact lv_imul hx hb hd k
        · exact lv_iand hx hb hd k
        · exact lv_ior hx hb hd k
        · exact lv_ishl hx hb hd k
        · exact lv_ishr hx hb hd k
        · exact lv_iushr hx hb hd rfl k
      · cases hs
    · cases hs
  · cases hs
theorem pm_sE_ok (hx : p.tables.exec = Jvm.exec) (hb : c.code = cc) (hd : decode cc pc = .ok (i, len)) (hs : pm_sE i len pc pl st w = some cf) (k : pm_K p l e R s m args below meth c cells slots Q ρ τ D sz cf) : pm_K p l e R s m args below meth c cells slots Q ρ τ D sz (pc, pl, st, w) := by
  intro H locs ls hSim hS hl
  unfold pm_sE at hs
  split at hs
  · rename_i f hk
    split at hs
    · split at hs
      · rename_i hn
        subst hn
        cases hs
        have k := k H locs ls hSim hS hl
        unfold pm_k3 at hk
        split at hk <;> cases hk
        · exact lv_ladd hx hb hd k
        · exact lv_lsub hx hb hd k
        · exact lv_lmul hx hb hd k
        · exact lv_lxor hx hb hd k
      · cases hs
    · cases hs
  · cases hs
theorem pm_sF_ok (hx : p.tables.exec = Jvm.exec) (hb : c.code = cc) (hd : decode cc pc = .ok (i, len)) (hs : pm_sF i len pc pl st w = some cf) (k : pm_K p l e R s m args below meth c cells slots Q ρ τ D sz cf) : pm_K p l e R s m args below meth c cells slots Q ρ τ D sz (pc, pl, st, w) := by
  intro H locs ls hSim hS hl
  unfold pm_sF at hs
  split at hs
  · split at hs
    · rename_i hn; subst hn; cases hs; exact lv_ineg hx hb hd (k H locs ls hSim hS hl)
    · cases hs
  · split at hs
    · rename_i hn; subst hn; cases hs; exact lv_i2l hx hb hd rfl (k H locs ls hSim hS hl)
    · cases hs
  · split at hs
    · rename_i hn; subst hn; cases hs; exact lv_l2i hx hb hd rfl (k H locs ls hSim hS hl)
    · cases hs
  · split at hs
    · rename_i hn; subst hn; cases hs; exact lv_i2b hx hb hd rfl (k H locs ls hSim hS hl)
    · cases hs
  · split at hs
    · rename_i hn; subst hn
      split at hs
      · cases hs
      · rename_i hy; cases hs; exact lv_ldiv hx hb hd hy (k H locs ls hSim hS hl)
    · cases hs
  · split at hs
    · rename_i hn; subst hn; cases hs; exact W.lcmp hx hb hd (k H locs ls hSim hS hl)
    · cases hs
  · split at hs
    · rename_i hn; obtain ⟨hn, hc⟩ := hn; subst hn; cases hs; exact lv_dup hx hb hd (by rw [pm_cat]; exact hc) (k H locs ls hSim hS hl)
    · cases hs
  · split at hs
    · rename_i hn; obtain ⟨hn, hc, hc2⟩ := hn; subst hn; cases hs; exact lv_dup2_11 hx hb hd (by rw [pm_cat]; assumption) (by rw [pm_cat]; assumption) (k H locs ls hSim hS hl)
    · cases hs
  · split at hs
    · rename_i hn; obtain ⟨hn, hc⟩ := hn; subst hn; cases hs; exact lv_pop hx hb hd (by rw [pm_cat]; exact hc) (k H locs ls hSim hS hl)
    · cases hs
  · split at hs
    · rename_i hn; subst hn
      split at hs
      · rename_i x hv
        split at hs
        · rename_i pl' hpl
          cases hs
          simp only [pm_sto] at hpl
          split at hpl
          · rename_i hc
            cases hpl
            obtain ⟨kk, hkk⟩ := List.getElem?_of_mem (pm_lv_mem.mpr ⟨_, hv, rfl⟩ : (_, pm_rn ρ (.int x)) ∈ pm_lv ρ pl)
            exact lv_iinc hx hb hd hl.has hkk rfl hc.1 rfl (fun ls' h => k H locs ls' hSim hS (pm_lh.set1 hc.1 hc.2 h))
          · cases hpl
        · cases hs
      · cases hs
    · cases hs
  · cases hs
theorem pm_tg_eq {pc : Nat} {off : Int} (h : 0 ≤ (pc : Int) + off) : (pc : Int) + off = ((pm_tg pc off : Nat) : Int) := by unfold pm_tg; omega
theorem pm_sG_ok (hx : p.tables.exec = Jvm.exec) (hb : c.code = cc) (hd : decode cc pc = .ok (i, len)) (hs : pm_sG i len pc pl st w = some cf) (k : pm_K p l e R s m args below meth c cells slots Q ρ τ D sz cf) : pm_K p l e R s m args below meth c cells slots Q ρ τ D sz (pc, pl, st, w) := by
  intro H locs ls hSim hS hl
  unfold pm_sG at hs
  split at hs
  · rename_i cn off x r
    split at hs
    · rename_i hn
      obtain ⟨hn, h0⟩ := hn
      subst hn
      cases hs
      have kt : pm_cc cn x 0 → W p l e R s m args below meth c H locs cells slots Q (F0 m (pm_tg pc off) ls (r.map (pm_rn ρ))) := fun h => by rw [if_pos h] at k; exact k H locs ls hSim hS hl
      have kf : ¬ pm_cc cn x 0 → W p l e R s m args below meth c H locs cells slots Q (F0 m (pc + 3) ls (r.map (pm_rn ρ))) := fun h => by rw [if_neg h] at k; exact k H locs ls hSim hS hl
      cases cn
      · exact lv_if_eq hx hb hd (pm_tg_eq h0) kt kf
      · exact lv_if_ne hx hb hd (pm_tg_eq h0) kt (fun h => kf (fun h2 => h2 h))
      · exact lv_if_lt hx hb hd (pm_tg_eq h0) kt kf
      · exact lv_if_ge hx hb hd (pm_tg_eq h0) kt kf
      · exact lv_if_gt hx hb hd (pm_tg_eq h0) kt kf
      · exact lv_if_le hx hb hd (pm_tg_eq h0) kt kf
    · cases hs
  · rename_i cn off y x r
    split at hs
    · rename_i hn
      obtain ⟨hn, h0⟩ := hn
      subst hn
      cases hs
      have kt : pm_cc cn x y → W p l e R s m args below meth c H locs cells slots Q (F0 m (pm_tg pc off) ls (r.map (pm_rn ρ))) := fun h => by rw [if_pos h] at k; exact k H locs ls hSim hS hl
      have kf : ¬ pm_cc cn x y → W p l e R s m args below meth c H locs cells slots Q (F0 m (pc + 3) ls (r.map (pm_rn ρ))) := fun h => by rw [if_neg h] at k; exact k H locs ls hSim hS hl
      cases cn
      · exact lv_icmp_eq hx hb hd (pm_tg_eq h0) kt kf
      · exact lv_icmp_ne hx hb hd (pm_tg_eq h0) kt (fun h => kf (fun h2 => h2 h))
      · exact lv_icmp_lt hx hb hd (pm_tg_eq h0) kt kf
      · exact lv_icmp_ge hx hb hd (pm_tg_eq h0) kt kf
      · exact lv_icmp_gt hx hb hd (pm_tg_eq h0) kt kf
      · exact lv_icmp_le hx hb hd (pm_tg_eq h0) kt kf
    · cases hs
  · split at hs
    · rename_i hn
      obtain ⟨hn, h0⟩ := hn
      subst hn
      cases hs
      exact lv_goto hx hb hd (pm_tg_eq h0) (k H locs ls hSim hS hl)
    · cases hs
  · split at hs
    · rename_i ho
      split at hs
      · rename_i h0
        cases hs
        exact lv_tableOut hx hb hd ho (pm_tg_eq h0) (k H locs ls hSim hS hl)
      · cases hs
    · rename_i ho
      split at hs
      · rename_i off hoff
        split at hs
        · rename_i h0
          cases hs
          exact lv_tableIn hx hb hd (fun h => ho (Or.inl h)) (fun h => ho (Or.inr h)) hoff (pm_tg_eq h0) (k H locs ls hSim hS hl)
        · cases hs
      · cases hs
  · split at hs
    · rename_i hn
      obtain ⟨hn, h0⟩ := hn
      cases hs
      exact lv_lookup hx hb hd hn rfl (pm_tg_eq h0) (k H locs ls hSim hS hl)
    · cases hs
  · cases hs
end PMW
end
section
/-! printed by wip/whole/gen_tables.py: the methods, the pools, and the words that say so -/
def pm_tb : List Cond := lw_tbl.filter goodWord
theorem pm_in {w : Cond} (i : Nat) (h : lw_tbl[i]? = some w) (hg : goodWord w = true) : w ∈ pm_tb := List.mem_filter.mpr ⟨List.mem_of_getElem? h, hg⟩
def pt_cn (o : Nat) : String := ([RX0, RX1, RX2, RX3, RX4, RX5, RX6, "java/lang/Math"] : List String).getD o ""
def pt_tab : List (MethodName × ByteArray × Nat × Option FieldType × Nat × Nat × Nat × Nat) := [
  (yX0_judge, cX0_judge, 5, none, 0, 5, 124, 4),
  (yX0_gather, cX0_gather, 6, none, 0, 4, 99, 4),
  (yX0_placeByHarm, cX0_placeByHarm, 3, none, 0, 1, 22, 1),
  (yX0_harmsLess, cX0_harmsLess, 3, some .boolean, 0, 0, 0, 2),
  (yX0_settle, cX0_settle, 7, none, 0, 1, 30, 2),
  (yX0_takeIn, cX0_takeIn, 11, none, 0, 0, 0, 0),
  (yX0_aShareWith, cX0_aShareWith, 9, some .int, 0, 1, 25, 2),
  (yX0_diluted, cX0_diluted, 1, some .int, 0, 2, 53, 0),
  (yX0_rankedSet, cX0_rankedSet, 3, some .int, 0, 0, 0, 0),
  (yX1_keep, cX1_keep, 4, none, 1, 1, 21, 3),
  (yX1_forgetOldest, cX1_forgetOldest, 2, none, 1, 0, 0, 0),
  (yX1_takeBack, cX1_takeBack, 2, none, 1, 1, 20, 1),
  (yX2_read, cX2_read, 4, some .int, 2, 10, 251, 1),
  (yX2_step, cX2_step, 2, none, 2, 1, 24, 0),
  (yX2_stepLettersAndDigits, cX2_stepLettersAndDigits, 5, none, 2, 0, 0, 0),
  (yX2_atEnd, cX2_atEnd, 2, some .int, 2, 1, 21, 1),
  (yX2_fail, cX2_fail, 2, some .boolean, 2, 0, 0, 1),
  (yX2_readShares, cX2_readShares, 2, some .boolean, 2, 7, 183, 1),
  (yX2_isWord, cX2_isWord, 3, some .boolean, 2, 6, 161, 1),
  (yX2_number, cX2_number, 3, some .boolean, 2, 2, 45, 2),
  (yX2_semicolon, cX2_semicolon, 1, some .boolean, 2, 2, 45, 0),
  (yX2_readQuarter, cX2_readQuarter, 4, some .boolean, 2, 8, 204, 2),
  (yX2_word, cX2_word, 2, some .boolean, 2, 7, 183, 1),
  (yX2_readOthers, cX2_readOthers, 3, some .int, 2, 9, 229, 1),
  (yX2_readOther, cX2_readOther, 2, some .boolean, 2, 8, 208, 1),
  (yX2_readEvent, cX2_readEvent, 4, some .boolean, 2, 3, 67, 2),
  (yX2_readInstrument, cX2_readInstrument, 6, some .boolean, 2, 7, 183, 2),
  (yX3_hasRoom, cX3_hasRoom, 1, some .boolean, 3, 0, 0, 0),
  (yX3_put, cX3_put, 3, none, 3, 0, 0, 1),
  (yX4_reset, cX4_reset, 2, none, 4, 0, 0, 0),
  (yX4_hasRoomForEvent, cX4_hasRoomForEvent, 2, some .boolean, 4, 1, 22, 1),
  (yX4_splitCount, cX4_splitCount, 3, some .int, 4, 0, 0, 0),
  (yX4_earliestDay, cX4_earliestDay, 1, some .int, 4, 1, 21, 0),
  (yX4_latestDay, cX4_latestDay, 1, some .int, 4, 0, 0, 0),
  (yX4_leastOfEvent, cX4_leastOfEvent, 2, some .int, 4, 0, 0, 1),
  (yX4_mostOfEvent, cX4_mostOfEvent, 2, some .int, 4, 1, 24, 1),
  (yX4_sharesOn, cX4_sharesOn, 5, some .int, 4, 0, 0, 1),
  (yX4_addEvent, cX4_addEvent, 4, none, 4, 0, 0, 3),
  (yX4_hasRoomForInstrument, cX4_hasRoomForInstrument, 1, some .boolean, 4, 0, 0, 0),
  (yX4_addInstrument, cX4_addInstrument, 5, none, 4, 0, 0, 4),
  (yX4_restatedOn, cX4_restatedOn, 2, some .int, 4, 1, 24, 1),
  (yX4_splitsBehind, cX4_splitsBehind, 5, some .int, 4, 0, 0, 2),
  (yX4_hasInstrument, cX4_hasInstrument, 2, some .boolean, 4, 0, 0, 1),
  (yX4_oldShares, cX4_oldShares, 2, some .int, 4, 1, 24, 1),
  (yX4_dropEvent, cX4_dropEvent, 1, none, 4, 0, 0, 0),
  (yX4_dropInstrument, cX4_dropInstrument, 1, none, 4, 0, 0, 0),
  (yX4_weightOf, cX4_weightOf, 9, some .long, 4, 2, 45, 2),
  (yX4_dayBehind, cX4_dayBehind, 1, some .int, 4, 0, 0, 1),
  (yX4_addedToEarnings, cX4_addedToEarnings, 4, some .long, 4, 2, 45, 3),
  (yX4_daysCounted, cX4_daysCounted, 5, some .int, 4, 1, 21, 3),
  (yX4_profitFloor, cX4_profitFloor, 2, some .long, 4, 0, 0, 1),
  (yX4_earningsOf, cX4_earningsOf, 6, some .long, 4, 0, 0, 2),
  (yX4_addedToWeight, cX4_addedToWeight, 8, some .long, 4, 3, 72, 3),
  (yX4_addedByOption, cX4_addedByOption, 7, some .long, 4, 2, 46, 2),
  (yX4_scaledPrice, cX4_scaledPrice, 3, some .int, 4, 1, 24, 2),
  (yX5_feed, cX5_feed, 6, some .int, 5, 1, 22, 5),
  (yX5_end, cX5_end, 2, some .boolean, 5, 0, 0, 1),
  (yX5_text, cX5_text, 3, some .int, 5, 11, 274, 0),
  (yX5_leastTerm, cX5_leastTerm, 1, some .int, 5, 0, 0, 1),
  (yX5_mostTerm, cX5_mostTerm, 1, some .int, 5, 0, 0, 1),
  (yX5_fault, cX5_fault, 1, some .int, 5, 0, 0, 0),
  (yX5_now, cX5_now, 2, some .int, 5, 1, 24, 1),
  (yX5_shares, cX5_shares, 3, some .int, 5, 2, 45, 2),
  (yX5_isDay, cX5_isDay, 1, some .boolean, 5, 0, 0, 1),
  (yX5_event, cX5_event, 3, some .int, 5, 0, 0, 2),
  (yX5_instrument, cX5_instrument, 3, some .int, 5, 2, 45, 2),
  (yX5_tells, cX5_tells, 4, some .int, 5, 2, 45, 3),
  (yX5_grants, cX5_grants, 5, some .int, 5, 2, 44, 4),
  (yX5_earns, cX5_earns, 4, some .int, 5, 2, 44, 2),
  (yX5_isQuarter, cX5_isQuarter, 1, some .boolean, 5, 0, 0, 1),
  (yX5_prices, cX5_prices, 4, some .int, 5, 2, 44, 2),
  (yX5_isPrice, cX5_isPrice, 1, some .boolean, 5, 0, 0, 1),
  (yX5_undo, cX5_undo, 1, some .int, 5, 2, 41, 0),
  (yX5_quarter, cX5_quarter, 3, some .int, 5, 1, 20, 2),
  (yX5_weight, cX5_weight, 3, some .long, 5, 3, 73, 2),
  (yX5_requireRun, cX5_requireRun, 2, none, 5, 0, 0, 2),
  (yX5_adds, cX5_adds, 5, some .long, 5, 4, 99, 4),
  (yX5_run, cX5_run, 4, some .int, 5, 6, 148, 3),
  (yX5_rank, cX5_rank, 4, some .int, 5, 6, 148, 3),
  (yX5_without, cX5_without, 4, some .int, 5, 7, 171, 3),
  (yX5_dilutedLeavingOut, cX5_dilutedLeavingOut, 4, some .int, 5, 6, 148, 3),
  (yX5_with, cX5_with, 4, some .int, 5, 6, 148, 3),
  (yX5_priced, cX5_priced, 7, some .int, 5, 7, 171, 4),
  (yX5_profit, cX5_profit, 5, some .int, 5, 6, 156, 4),
  (yX5_leastProfitThatTakesIn, cX5_leastProfitThatTakesIn, 13, some .int, 5, 5, 124, 4),
  (yX5_ifSplit, cX5_ifSplit, 5, some .int, 5, 7, 171, 3),
  (yX6_thrown, cX6_thrown, 1, some .int, 6, 0, 0, 0),
  (yX6_feed, cX6_feed, 6, some .int, 6, 1, 22, 5),
  (yX6_lays, cX6_lays, 3, none, 6, 0, 0, 1),
  (yX6_end, cX6_end, 2, some .boolean, 6, 0, 0, 1),
  (yX6_clears, cX6_clears, 2, none, 6, 0, 0, 1),
  (yX6_text, cX6_text, 3, some .int, 6, 6, 133, 0),
  (yX6_go, cX6_go, 5, none, 6, 1, 21, 0),
  (yX6_isLetter, cX6_isLetter, 1, some .boolean, 6, 0, 0, 1),
  (yX6_isDigit, cX6_isDigit, 1, some .boolean, 6, 0, 0, 1),
  (yX6_tapeAt, cX6_tapeAt, 2, some .int, 6, 0, 0, 1),
  (yX6_isIn, cX6_isIn, 3, some .boolean, 6, 0, 0, 3),
  (yX6_readLine, cX6_readLine, 2, some .boolean, 6, 5, 112, 1),
  (yX6_readShares, cX6_readShares, 1, some .boolean, 6, 3, 68, 0),
  (yX6_six, cX6_six, 6, some .long, 6, 1, 22, 6),
  (yX6_three, cX6_three, 3, some .long, 6, 0, 0, 3),
  (yX6_isWord, cX6_isWord, 3, some .boolean, 6, 0, 0, 1),
  (yX6_bad, cX6_bad, 2, some .boolean, 6, 0, 0, 1),
  (yX6_told, cX6_told, 4, some .boolean, 6, 2, 45, 3),
  (yX6_readQuarter, cX6_readQuarter, 3, some .boolean, 6, 3, 68, 1),
  (yX6_isProfit, cX6_isProfit, 1, some .boolean, 6, 2, 47, 0),
  (yX6_four, cX6_four, 4, some .long, 6, 1, 22, 4),
  (yX6_isPrice, cX6_isPrice, 1, some .boolean, 6, 2, 46, 0),
  (yX6_five, cX6_five, 5, some .long, 6, 1, 22, 5),
  (yX6_readOther, cX6_readOther, 1, some .boolean, 6, 4, 92, 0),
  (yX6_readEvent, cX6_readEvent, 4, some .boolean, 6, 3, 69, 1),
  (yX6_splitsOf, cX6_splitsOf, 3, some .int, 6, 1, 22, 1),
  (yX6_told_, cX6_told_, 3, some .int, 6, 0, 0, 3),
  (yX6_lastDay, cX6_lastDay, 1, some .int, 6, 1, 22, 1),
  (yX6_mostOf, cX6_mostOf, 3, some .int, 6, 2, 47, 2),
  (yX6_sharesOf, cX6_sharesOf, 6, some .int, 6, 1, 22, 2),
  (yX6_readGrant, cX6_readGrant, 3, some .boolean, 6, 3, 68, 1),
  (yX6_readEnd, cX6_readEnd, 1, some .boolean, 6, 2, 45, 0),
  (yX6_fault, cX6_fault, 1, some .int, 6, 0, 0, 0),
  (yX6_now, cX6_now, 2, some .int, 6, 2, 47, 1),
  (yX6_shares, cX6_shares, 3, some .int, 6, 3, 68, 2),
  (yX6_isDay, cX6_isDay, 1, some .boolean, 6, 1, 22, 1),
  (yX6_restated, cX6_restated, 2, some .int, 6, 2, 47, 1),
  (yX6_scale, cX6_scale, 5, some .int, 6, 1, 22, 2),
  (yX6_quarter, cX6_quarter, 3, some .int, 6, 2, 42, 2),
  (yX6_isQuarter, cX6_isQuarter, 1, some .boolean, 6, 1, 22, 1),
  (yX6_refuse, cX6_refuse, 1, some .int, 6, 0, 0, 0),
  (yX6_event, cX6_event, 3, some .int, 6, 1, 22, 2),
  (yX6_instrument, cX6_instrument, 3, some .int, 6, 3, 67, 2),
  (yX6_isInstrument, cX6_isInstrument, 2, some .boolean, 6, 1, 22, 1),
  (yX6_old, cX6_old, 2, some .int, 6, 2, 46, 1),
  (yX6_its, cX6_its, 3, some .int, 6, 0, 0, 2),
  (yX6_weight, cX6_weight, 3, some .long, 6, 4, 93, 2),
  (yX6_isRun, cX6_isRun, 2, some .boolean, 6, 2, 42, 2),
  (yX6_weightOf, cX6_weightOf, 6, some .long, 6, 3, 68, 2),
  (yX6_adds, cX6_adds, 5, some .long, 6, 5, 118, 4),
  (yX6_addsEarnings, cX6_addsEarnings, 4, some .long, 6, 2, 47, 3),
  (yX6_counts, cX6_counts, 6, some .int, 6, 1, 22, 3),
  (yX6_addsWeight, cX6_addsWeight, 7, some .long, 6, 4, 92, 3),
  (yX6_byOption, cX6_byOption, 5, some .long, 6, 3, 68, 2),
  (yX6_priceOf, cX6_priceOf, 3, some .int, 6, 2, 46, 2),
  (yX6_earningsOf, cX6_earningsOf, 5, some .int, 6, 0, 0, 2),
  (yX6_run, cX6_run, 5, some .int, 6, 7, 166, 3),
  (yX6_diluted, cX6_diluted, 4, some .int, 6, 6, 143, 3),
  (yX6_reckons, cX6_reckons, 6, none, 6, 5, 118, 3),
  (yX6_isAhead, cX6_isAhead, 7, some .boolean, 6, 0, 0, 2),
  (yX6_takes, cX6_takes, 2, none, 6, 0, 0, 1),
  (yX6_share, cX6_share, 10, some .int, 6, 0, 0, 4),
  (yX6_rank, cX6_rank, 4, some .int, 6, 6, 143, 3),
  (yX6_without, cX6_without, 4, some .int, 6, 7, 166, 3),
  (yX6_with, cX6_with, 9, some .int, 6, 5, 118, 3),
  (yX6_has, cX6_has, 2, some .boolean, 6, 0, 0, 2),
  (yX6_priced, cX6_priced, 5, some .int, 6, 8, 192, 4),
  (yX6_dilutedBy, cX6_dilutedBy, 7, some .int, 6, 7, 166, 4),
  (yX6_profit, cX6_profit, 6, some .int, 6, 8, 192, 4),
  (yX6_ifSplit, cX6_ifSplit, 5, some .int, 6, 7, 166, 3),
  (yX6_isFull, cX6_isFull, 2, some .boolean, 6, 2, 44, 1),
  (yX6_adds_, cX6_adds_, 5, none, 6, 0, 0, 3),
  (yX6_tells, cX6_tells, 4, some .int, 6, 3, 69, 3),
  (yX6_snap, cX6_snap, 2, none, 6, 0, 0, 0),
  (yX6_grants, cX6_grants, 6, some .int, 6, 2, 42, 4),
  (yX6_earns, cX6_earns, 3, some .int, 6, 2, 44, 2),
  (yX6_becomes, cX6_becomes, 4, some .int, 6, 1, 21, 2),
  (yX6_prices, cX6_prices, 3, some .int, 6, 2, 44, 2),
  (yX6_undo, cX6_undo, 2, some .int, 6, 0, 0, 0),
  ((⟨"java/lang/Math", "min", "(II)I"⟩ : MethodName), prog_13_method_69_code, 2, some .int, 7, 0, 0, 2),
  ((⟨"java/lang/Math", "max", "(II)I"⟩ : MethodName), prog_13_method_65_code, 2, some .int, 7, 0, 0, 2),
  ((⟨"java/lang/Math", "floorDiv", "(JJ)J"⟩ : MethodName), prog_13_method_49_code, 6, some .long, 7, 0, 0, 2)]
def pt_at (M : Nat) : MethodName × ByteArray × Nat × Option FieldType × Nat × Nat × Nat × Nat := pt_tab.getD M (yX0_init, cX0_init, 0, none, 0, 0, 0, 0)
def pt_y (M : Nat) : MethodName := (pt_at M).1
def pt_b (M : Nat) : ByteArray := (pt_at M).2.1
def pt_l (M : Nat) : Nat := (pt_at M).2.2.1
def pt_r (M : Nat) : Option FieldType := (pt_at M).2.2.2.1
def pt_o (M : Nat) : Nat := (pt_at M).2.2.2.2.1
def pt_f (M : Nat) : Nat := (pt_at M).2.2.2.2.2.1
def pt_w (M : Nat) : Nat := (pt_at M).2.2.2.2.2.2.1
def pt_n (M : Nat) : Nat := (pt_at M).2.2.2.2.2.2.2
theorem pt_0 : pt_at 0 = (yX0_judge, cX0_judge, 5, none, 0, 5, 124, 4) := rfl
theorem pt_1 : pt_at 1 = (yX0_gather, cX0_gather, 6, none, 0, 4, 99, 4) := rfl
theorem pt_2 : pt_at 2 = (yX0_placeByHarm, cX0_placeByHarm, 3, none, 0, 1, 22, 1) := rfl
theorem pt_3 : pt_at 3 = (yX0_harmsLess, cX0_harmsLess, 3, some .boolean, 0, 0, 0, 2) := rfl
theorem pt_4 : pt_at 4 = (yX0_settle, cX0_settle, 7, none, 0, 1, 30, 2) := rfl
theorem pt_5 : pt_at 5 = (yX0_takeIn, cX0_takeIn, 11, none, 0, 0, 0, 0) := rfl
theorem pt_6 : pt_at 6 = (yX0_aShareWith, cX0_aShareWith, 9, some .int, 0, 1, 25, 2) := rfl
theorem pt_7 : pt_at 7 = (yX0_diluted, cX0_diluted, 1, some .int, 0, 2, 53, 0) := rfl
theorem pt_8 : pt_at 8 = (yX0_rankedSet, cX0_rankedSet, 3, some .int, 0, 0, 0, 0) := rfl
theorem pt_9 : pt_at 9 = (yX1_keep, cX1_keep, 4, none, 1, 1, 21, 3) := rfl
theorem pt_10 : pt_at 10 = (yX1_forgetOldest, cX1_forgetOldest, 2, none, 1, 0, 0, 0) := rfl
theorem pt_11 : pt_at 11 = (yX1_takeBack, cX1_takeBack, 2, none, 1, 1, 20, 1) := rfl
theorem pt_12 : pt_at 12 = (yX2_read, cX2_read, 4, some .int, 2, 10, 251, 1) := rfl
theorem pt_13 : pt_at 13 = (yX2_step, cX2_step, 2, none, 2, 1, 24, 0) := rfl
theorem pt_14 : pt_at 14 = (yX2_stepLettersAndDigits, cX2_stepLettersAndDigits, 5, none, 2, 0, 0, 0) := rfl
theorem pt_15 : pt_at 15 = (yX2_atEnd, cX2_atEnd, 2, some .int, 2, 1, 21, 1) := rfl
theorem pt_16 : pt_at 16 = (yX2_fail, cX2_fail, 2, some .boolean, 2, 0, 0, 1) := rfl
theorem pt_17 : pt_at 17 = (yX2_readShares, cX2_readShares, 2, some .boolean, 2, 7, 183, 1) := rfl
theorem pt_18 : pt_at 18 = (yX2_isWord, cX2_isWord, 3, some .boolean, 2, 6, 161, 1) := rfl
theorem pt_19 : pt_at 19 = (yX2_number, cX2_number, 3, some .boolean, 2, 2, 45, 2) := rfl
theorem pt_20 : pt_at 20 = (yX2_semicolon, cX2_semicolon, 1, some .boolean, 2, 2, 45, 0) := rfl
theorem pt_21 : pt_at 21 = (yX2_readQuarter, cX2_readQuarter, 4, some .boolean, 2, 8, 204, 2) := rfl
theorem pt_22 : pt_at 22 = (yX2_word, cX2_word, 2, some .boolean, 2, 7, 183, 1) := rfl
theorem pt_23 : pt_at 23 = (yX2_readOthers, cX2_readOthers, 3, some .int, 2, 9, 229, 1) := rfl
theorem pt_24 : pt_at 24 = (yX2_readOther, cX2_readOther, 2, some .boolean, 2, 8, 208, 1) := rfl
theorem pt_25 : pt_at 25 = (yX2_readEvent, cX2_readEvent, 4, some .boolean, 2, 3, 67, 2) := rfl
theorem pt_26 : pt_at 26 = (yX2_readInstrument, cX2_readInstrument, 6, some .boolean, 2, 7, 183, 2) := rfl
theorem pt_27 : pt_at 27 = (yX3_hasRoom, cX3_hasRoom, 1, some .boolean, 3, 0, 0, 0) := rfl
theorem pt_28 : pt_at 28 = (yX3_put, cX3_put, 3, none, 3, 0, 0, 1) := rfl
theorem pt_29 : pt_at 29 = (yX4_reset, cX4_reset, 2, none, 4, 0, 0, 0) := rfl
theorem pt_30 : pt_at 30 = (yX4_hasRoomForEvent, cX4_hasRoomForEvent, 2, some .boolean, 4, 1, 22, 1) := rfl
theorem pt_31 : pt_at 31 = (yX4_splitCount, cX4_splitCount, 3, some .int, 4, 0, 0, 0) := rfl
theorem pt_32 : pt_at 32 = (yX4_earliestDay, cX4_earliestDay, 1, some .int, 4, 1, 21, 0) := rfl
theorem pt_33 : pt_at 33 = (yX4_latestDay, cX4_latestDay, 1, some .int, 4, 0, 0, 0) := rfl
theorem pt_34 : pt_at 34 = (yX4_leastOfEvent, cX4_leastOfEvent, 2, some .int, 4, 0, 0, 1) := rfl
theorem pt_35 : pt_at 35 = (yX4_mostOfEvent, cX4_mostOfEvent, 2, some .int, 4, 1, 24, 1) := rfl
theorem pt_36 : pt_at 36 = (yX4_sharesOn, cX4_sharesOn, 5, some .int, 4, 0, 0, 1) := rfl
theorem pt_37 : pt_at 37 = (yX4_addEvent, cX4_addEvent, 4, none, 4, 0, 0, 3) := rfl
theorem pt_38 : pt_at 38 = (yX4_hasRoomForInstrument, cX4_hasRoomForInstrument, 1, some .boolean, 4, 0, 0, 0) := rfl
theorem pt_39 : pt_at 39 = (yX4_addInstrument, cX4_addInstrument, 5, none, 4, 0, 0, 4) := rfl
theorem pt_40 : pt_at 40 = (yX4_restatedOn, cX4_restatedOn, 2, some .int, 4, 1, 24, 1) := rfl
theorem pt_41 : pt_at 41 = (yX4_splitsBehind, cX4_splitsBehind, 5, some .int, 4, 0, 0, 2) := rfl
theorem pt_42 : pt_at 42 = (yX4_hasInstrument, cX4_hasInstrument, 2, some .boolean, 4, 0, 0, 1) := rfl
theorem pt_43 : pt_at 43 = (yX4_oldShares, cX4_oldShares, 2, some .int, 4, 1, 24, 1) := rfl
theorem pt_44 : pt_at 44 = (yX4_dropEvent, cX4_dropEvent, 1, none, 4, 0, 0, 0) := rfl
theorem pt_45 : pt_at 45 = (yX4_dropInstrument, cX4_dropInstrument, 1, none, 4, 0, 0, 0) := rfl
theorem pt_46 : pt_at 46 = (yX4_weightOf, cX4_weightOf, 9, some .long, 4, 2, 45, 2) := rfl
theorem pt_47 : pt_at 47 = (yX4_dayBehind, cX4_dayBehind, 1, some .int, 4, 0, 0, 1) := rfl
theorem pt_48 : pt_at 48 = (yX4_addedToEarnings, cX4_addedToEarnings, 4, some .long, 4, 2, 45, 3) := rfl
theorem pt_49 : pt_at 49 = (yX4_daysCounted, cX4_daysCounted, 5, some .int, 4, 1, 21, 3) := rfl
theorem pt_50 : pt_at 50 = (yX4_profitFloor, cX4_profitFloor, 2, some .long, 4, 0, 0, 1) := rfl
theorem pt_51 : pt_at 51 = (yX4_earningsOf, cX4_earningsOf, 6, some .long, 4, 0, 0, 2) := rfl
theorem pt_52 : pt_at 52 = (yX4_addedToWeight, cX4_addedToWeight, 8, some .long, 4, 3, 72, 3) := rfl
theorem pt_53 : pt_at 53 = (yX4_addedByOption, cX4_addedByOption, 7, some .long, 4, 2, 46, 2) := rfl
theorem pt_54 : pt_at 54 = (yX4_scaledPrice, cX4_scaledPrice, 3, some .int, 4, 1, 24, 2) := rfl
theorem pt_55 : pt_at 55 = (yX5_feed, cX5_feed, 6, some .int, 5, 1, 22, 5) := rfl
theorem pt_56 : pt_at 56 = (yX5_end, cX5_end, 2, some .boolean, 5, 0, 0, 1) := rfl
theorem pt_57 : pt_at 57 = (yX5_text, cX5_text, 3, some .int, 5, 11, 274, 0) := rfl
theorem pt_58 : pt_at 58 = (yX5_leastTerm, cX5_leastTerm, 1, some .int, 5, 0, 0, 1) := rfl
theorem pt_59 : pt_at 59 = (yX5_mostTerm, cX5_mostTerm, 1, some .int, 5, 0, 0, 1) := rfl
theorem pt_60 : pt_at 60 = (yX5_fault, cX5_fault, 1, some .int, 5, 0, 0, 0) := rfl
theorem pt_61 : pt_at 61 = (yX5_now, cX5_now, 2, some .int, 5, 1, 24, 1) := rfl
theorem pt_62 : pt_at 62 = (yX5_shares, cX5_shares, 3, some .int, 5, 2, 45, 2) := rfl
theorem pt_63 : pt_at 63 = (yX5_isDay, cX5_isDay, 1, some .boolean, 5, 0, 0, 1) := rfl
theorem pt_64 : pt_at 64 = (yX5_event, cX5_event, 3, some .int, 5, 0, 0, 2) := rfl
theorem pt_65 : pt_at 65 = (yX5_instrument, cX5_instrument, 3, some .int, 5, 2, 45, 2) := rfl
theorem pt_66 : pt_at 66 = (yX5_tells, cX5_tells, 4, some .int, 5, 2, 45, 3) := rfl
theorem pt_67 : pt_at 67 = (yX5_grants, cX5_grants, 5, some .int, 5, 2, 44, 4) := rfl
theorem pt_68 : pt_at 68 = (yX5_earns, cX5_earns, 4, some .int, 5, 2, 44, 2) := rfl
theorem pt_69 : pt_at 69 = (yX5_isQuarter, cX5_isQuarter, 1, some .boolean, 5, 0, 0, 1) := rfl
theorem pt_70 : pt_at 70 = (yX5_prices, cX5_prices, 4, some .int, 5, 2, 44, 2) := rfl
theorem pt_71 : pt_at 71 = (yX5_isPrice, cX5_isPrice, 1, some .boolean, 5, 0, 0, 1) := rfl
theorem pt_72 : pt_at 72 = (yX5_undo, cX5_undo, 1, some .int, 5, 2, 41, 0) := rfl
theorem pt_73 : pt_at 73 = (yX5_quarter, cX5_quarter, 3, some .int, 5, 1, 20, 2) := rfl
theorem pt_74 : pt_at 74 = (yX5_weight, cX5_weight, 3, some .long, 5, 3, 73, 2) := rfl
theorem pt_75 : pt_at 75 = (yX5_requireRun, cX5_requireRun, 2, none, 5, 0, 0, 2) := rfl
theorem pt_76 : pt_at 76 = (yX5_adds, cX5_adds, 5, some .long, 5, 4, 99, 4) := rfl
theorem pt_77 : pt_at 77 = (yX5_run, cX5_run, 4, some .int, 5, 6, 148, 3) := rfl
theorem pt_78 : pt_at 78 = (yX5_rank, cX5_rank, 4, some .int, 5, 6, 148, 3) := rfl
theorem pt_79 : pt_at 79 = (yX5_without, cX5_without, 4, some .int, 5, 7, 171, 3) := rfl
theorem pt_80 : pt_at 80 = (yX5_dilutedLeavingOut, cX5_dilutedLeavingOut, 4, some .int, 5, 6, 148, 3) := rfl
theorem pt_81 : pt_at 81 = (yX5_with, cX5_with, 4, some .int, 5, 6, 148, 3) := rfl
theorem pt_82 : pt_at 82 = (yX5_priced, cX5_priced, 7, some .int, 5, 7, 171, 4) := rfl
theorem pt_83 : pt_at 83 = (yX5_profit, cX5_profit, 5, some .int, 5, 6, 156, 4) := rfl
theorem pt_84 : pt_at 84 = (yX5_leastProfitThatTakesIn, cX5_leastProfitThatTakesIn, 13, some .int, 5, 5, 124, 4) := rfl
theorem pt_85 : pt_at 85 = (yX5_ifSplit, cX5_ifSplit, 5, some .int, 5, 7, 171, 3) := rfl
theorem pt_86 : pt_at 86 = (yX6_thrown, cX6_thrown, 1, some .int, 6, 0, 0, 0) := rfl
theorem pt_87 : pt_at 87 = (yX6_feed, cX6_feed, 6, some .int, 6, 1, 22, 5) := rfl
theorem pt_88 : pt_at 88 = (yX6_lays, cX6_lays, 3, none, 6, 0, 0, 1) := rfl
theorem pt_89 : pt_at 89 = (yX6_end, cX6_end, 2, some .boolean, 6, 0, 0, 1) := rfl
theorem pt_90 : pt_at 90 = (yX6_clears, cX6_clears, 2, none, 6, 0, 0, 1) := rfl
theorem pt_91 : pt_at 91 = (yX6_text, cX6_text, 3, some .int, 6, 6, 133, 0) := rfl
theorem pt_92 : pt_at 92 = (yX6_go, cX6_go, 5, none, 6, 1, 21, 0) := rfl
theorem pt_93 : pt_at 93 = (yX6_isLetter, cX6_isLetter, 1, some .boolean, 6, 0, 0, 1) := rfl
theorem pt_94 : pt_at 94 = (yX6_isDigit, cX6_isDigit, 1, some .boolean, 6, 0, 0, 1) := rfl
theorem pt_95 : pt_at 95 = (yX6_tapeAt, cX6_tapeAt, 2, some .int, 6, 0, 0, 1) := rfl
theorem pt_96 : pt_at 96 = (yX6_isIn, cX6_isIn, 3, some .boolean, 6, 0, 0, 3) := rfl
theorem pt_97 : pt_at 97 = (yX6_readLine, cX6_readLine, 2, some .boolean, 6, 5, 112, 1) := rfl
theorem pt_98 : pt_at 98 = (yX6_readShares, cX6_readShares, 1, some .boolean, 6, 3, 68, 0) := rfl
theorem pt_99 : pt_at 99 = (yX6_six, cX6_six, 6, some .long, 6, 1, 22, 6) := rfl
theorem pt_100 : pt_at 100 = (yX6_three, cX6_three, 3, some .long, 6, 0, 0, 3) := rfl
theorem pt_101 : pt_at 101 = (yX6_isWord, cX6_isWord, 3, some .boolean, 6, 0, 0, 1) := rfl
theorem pt_102 : pt_at 102 = (yX6_bad, cX6_bad, 2, some .boolean, 6, 0, 0, 1) := rfl
theorem pt_103 : pt_at 103 = (yX6_told, cX6_told, 4, some .boolean, 6, 2, 45, 3) := rfl
theorem pt_104 : pt_at 104 = (yX6_readQuarter, cX6_readQuarter, 3, some .boolean, 6, 3, 68, 1) := rfl
theorem pt_105 : pt_at 105 = (yX6_isProfit, cX6_isProfit, 1, some .boolean, 6, 2, 47, 0) := rfl
theorem pt_106 : pt_at 106 = (yX6_four, cX6_four, 4, some .long, 6, 1, 22, 4) := rfl
theorem pt_107 : pt_at 107 = (yX6_isPrice, cX6_isPrice, 1, some .boolean, 6, 2, 46, 0) := rfl
theorem pt_108 : pt_at 108 = (yX6_five, cX6_five, 5, some .long, 6, 1, 22, 5) := rfl
theorem pt_109 : pt_at 109 = (yX6_readOther, cX6_readOther, 1, some .boolean, 6, 4, 92, 0) := rfl
theorem pt_110 : pt_at 110 = (yX6_readEvent, cX6_readEvent, 4, some .boolean, 6, 3, 69, 1) := rfl
theorem pt_111 : pt_at 111 = (yX6_splitsOf, cX6_splitsOf, 3, some .int, 6, 1, 22, 1) := rfl
theorem pt_112 : pt_at 112 = (yX6_told_, cX6_told_, 3, some .int, 6, 0, 0, 3) := rfl
theorem pt_113 : pt_at 113 = (yX6_lastDay, cX6_lastDay, 1, some .int, 6, 1, 22, 1) := rfl
theorem pt_114 : pt_at 114 = (yX6_mostOf, cX6_mostOf, 3, some .int, 6, 2, 47, 2) := rfl
theorem pt_115 : pt_at 115 = (yX6_sharesOf, cX6_sharesOf, 6, some .int, 6, 1, 22, 2) := rfl
theorem pt_116 : pt_at 116 = (yX6_readGrant, cX6_readGrant, 3, some .boolean, 6, 3, 68, 1) := rfl
theorem pt_117 : pt_at 117 = (yX6_readEnd, cX6_readEnd, 1, some .boolean, 6, 2, 45, 0) := rfl
theorem pt_118 : pt_at 118 = (yX6_fault, cX6_fault, 1, some .int, 6, 0, 0, 0) := rfl
theorem pt_119 : pt_at 119 = (yX6_now, cX6_now, 2, some .int, 6, 2, 47, 1) := rfl
theorem pt_120 : pt_at 120 = (yX6_shares, cX6_shares, 3, some .int, 6, 3, 68, 2) := rfl
theorem pt_121 : pt_at 121 = (yX6_isDay, cX6_isDay, 1, some .boolean, 6, 1, 22, 1) := rfl
theorem pt_122 : pt_at 122 = (yX6_restated, cX6_restated, 2, some .int, 6, 2, 47, 1) := rfl
theorem pt_123 : pt_at 123 = (yX6_scale, cX6_scale, 5, some .int, 6, 1, 22, 2) := rfl
theorem pt_124 : pt_at 124 = (yX6_quarter, cX6_quarter, 3, some .int, 6, 2, 42, 2) := rfl
theorem pt_125 : pt_at 125 = (yX6_isQuarter, cX6_isQuarter, 1, some .boolean, 6, 1, 22, 1) := rfl
theorem pt_126 : pt_at 126 = (yX6_refuse, cX6_refuse, 1, some .int, 6, 0, 0, 0) := rfl
theorem pt_127 : pt_at 127 = (yX6_event, cX6_event, 3, some .int, 6, 1, 22, 2) := rfl
theorem pt_128 : pt_at 128 = (yX6_instrument, cX6_instrument, 3, some .int, 6, 3, 67, 2) := rfl
theorem pt_129 : pt_at 129 = (yX6_isInstrument, cX6_isInstrument, 2, some .boolean, 6, 1, 22, 1) := rfl
theorem pt_130 : pt_at 130 = (yX6_old, cX6_old, 2, some .int, 6, 2, 46, 1) := rfl
theorem pt_131 : pt_at 131 = (yX6_its, cX6_its, 3, some .int, 6, 0, 0, 2) := rfl
theorem pt_132 : pt_at 132 = (yX6_weight, cX6_weight, 3, some .long, 6, 4, 93, 2) := rfl
theorem pt_133 : pt_at 133 = (yX6_isRun, cX6_isRun, 2, some .boolean, 6, 2, 42, 2) := rfl
theorem pt_134 : pt_at 134 = (yX6_weightOf, cX6_weightOf, 6, some .long, 6, 3, 68, 2) := rfl
theorem pt_135 : pt_at 135 = (yX6_adds, cX6_adds, 5, some .long, 6, 5, 118, 4) := rfl
theorem pt_136 : pt_at 136 = (yX6_addsEarnings, cX6_addsEarnings, 4, some .long, 6, 2, 47, 3) := rfl
theorem pt_137 : pt_at 137 = (yX6_counts, cX6_counts, 6, some .int, 6, 1, 22, 3) := rfl
theorem pt_138 : pt_at 138 = (yX6_addsWeight, cX6_addsWeight, 7, some .long, 6, 4, 92, 3) := rfl
theorem pt_139 : pt_at 139 = (yX6_byOption, cX6_byOption, 5, some .long, 6, 3, 68, 2) := rfl
theorem pt_140 : pt_at 140 = (yX6_priceOf, cX6_priceOf, 3, some .int, 6, 2, 46, 2) := rfl
theorem pt_141 : pt_at 141 = (yX6_earningsOf, cX6_earningsOf, 5, some .int, 6, 0, 0, 2) := rfl
theorem pt_142 : pt_at 142 = (yX6_run, cX6_run, 5, some .int, 6, 7, 166, 3) := rfl
theorem pt_143 : pt_at 143 = (yX6_diluted, cX6_diluted, 4, some .int, 6, 6, 143, 3) := rfl
theorem pt_144 : pt_at 144 = (yX6_reckons, cX6_reckons, 6, none, 6, 5, 118, 3) := rfl
theorem pt_145 : pt_at 145 = (yX6_isAhead, cX6_isAhead, 7, some .boolean, 6, 0, 0, 2) := rfl
theorem pt_146 : pt_at 146 = (yX6_takes, cX6_takes, 2, none, 6, 0, 0, 1) := rfl
theorem pt_147 : pt_at 147 = (yX6_share, cX6_share, 10, some .int, 6, 0, 0, 4) := rfl
theorem pt_148 : pt_at 148 = (yX6_rank, cX6_rank, 4, some .int, 6, 6, 143, 3) := rfl
theorem pt_149 : pt_at 149 = (yX6_without, cX6_without, 4, some .int, 6, 7, 166, 3) := rfl
theorem pt_150 : pt_at 150 = (yX6_with, cX6_with, 9, some .int, 6, 5, 118, 3) := rfl
theorem pt_151 : pt_at 151 = (yX6_has, cX6_has, 2, some .boolean, 6, 0, 0, 2) := rfl
theorem pt_152 : pt_at 152 = (yX6_priced, cX6_priced, 5, some .int, 6, 8, 192, 4) := rfl
theorem pt_153 : pt_at 153 = (yX6_dilutedBy, cX6_dilutedBy, 7, some .int, 6, 7, 166, 4) := rfl
theorem pt_154 : pt_at 154 = (yX6_profit, cX6_profit, 6, some .int, 6, 8, 192, 4) := rfl
theorem pt_155 : pt_at 155 = (yX6_ifSplit, cX6_ifSplit, 5, some .int, 6, 7, 166, 3) := rfl
theorem pt_156 : pt_at 156 = (yX6_isFull, cX6_isFull, 2, some .boolean, 6, 2, 44, 1) := rfl
theorem pt_157 : pt_at 157 = (yX6_adds_, cX6_adds_, 5, none, 6, 0, 0, 3) := rfl
theorem pt_158 : pt_at 158 = (yX6_tells, cX6_tells, 4, some .int, 6, 3, 69, 3) := rfl
theorem pt_159 : pt_at 159 = (yX6_snap, cX6_snap, 2, none, 6, 0, 0, 0) := rfl
theorem pt_160 : pt_at 160 = (yX6_grants, cX6_grants, 6, some .int, 6, 2, 42, 4) := rfl
theorem pt_161 : pt_at 161 = (yX6_earns, cX6_earns, 3, some .int, 6, 2, 44, 2) := rfl
theorem pt_162 : pt_at 162 = (yX6_becomes, cX6_becomes, 4, some .int, 6, 1, 21, 2) := rfl
theorem pt_163 : pt_at 163 = (yX6_prices, cX6_prices, 3, some .int, 6, 2, 44, 2) := rfl
theorem pt_164 : pt_at 164 = (yX6_undo, cX6_undo, 2, some .int, 6, 0, 0, 0) := rfl
theorem pt_165 : pt_at 165 = ((⟨"java/lang/Math", "min", "(II)I"⟩ : MethodName), prog_13_method_69_code, 2, some .int, 7, 0, 0, 2) := rfl
theorem pt_166 : pt_at 166 = ((⟨"java/lang/Math", "max", "(II)I"⟩ : MethodName), prog_13_method_65_code, 2, some .int, 7, 0, 0, 2) := rfl
theorem pt_167 : pt_at 167 = ((⟨"java/lang/Math", "floorDiv", "(JJ)J"⟩ : MethodName), prog_13_method_49_code, 6, some .long, 7, 0, 0, 2) := rfl
def pt_Yp (M : Nat) : Prop := Cond.code (pt_y M) (pt_b M) (pt_l M) (pt_r M) ∈ pm_tb ∧ Cond.initialized (pt_y M).cls ∈ pm_tb ∧ ((pt_y M).cls ≠ "java/lang/invoke/MethodHandle" ∧ (pt_y M).cls ≠ "java/lang/invoke/VarHandle" ∧ (parseMethodDescriptor (pt_y M).desc).map (fun d => d.parameters.length) = some (pt_n M)) ∧ plainFor (pt_y M) = true ∧ pt_cn (pt_o M) = (pt_y M).cls
theorem pt_yp {M : Nat} {y : MethodName} {b : ByteArray} {ml : Nat} {r : Option FieldType} {o f w n : Nat} (h : pt_at M = (y, b, ml, r, o, f, w, n)) (i j : Nat) (h1 : lw_tbl[i]? = some (Cond.code y b ml r)) (h2 : lw_tbl[j]? = some (Cond.initialized y.cls)) (h3 : y.cls ≠ "java/lang/invoke/MethodHandle" ∧ y.cls ≠ "java/lang/invoke/VarHandle" ∧ (parseMethodDescriptor y.desc).map (fun d => d.parameters.length) = some n) (h4 : plainFor y = true) (h5 : pt_cn o = y.cls) : pt_Yp M := by
  unfold pt_Yp pt_y pt_b pt_l pt_r pt_o pt_n
  rw [h]
  exact ⟨pm_in i h1 rfl, pm_in j h2 rfl, h3, h4, h5⟩
theorem pt_Y0 : pt_Yp 0 := pt_yp pt_0 726 65 (by decide +kernel) (by decide +kernel) (by decide +kernel) (by decide +kernel) rfl
theorem pt_Y1 : pt_Yp 1 := pt_yp pt_1 730 65 (by decide +kernel) (by decide +kernel) (by decide +kernel) (by decide +kernel) rfl
theorem pt_Y2 : pt_Yp 2 := pt_yp pt_2 738 65 (by decide +kernel) (by decide +kernel) (by decide +kernel) (by decide +kernel) rfl
theorem pt_Y3 : pt_Yp 3 := pt_yp pt_3 742 65 (by decide +kernel) (by decide +kernel) (by decide +kernel) (by decide +kernel) rfl
theorem pt_Y4 : pt_Yp 4 := pt_yp pt_4 747 65 (by decide +kernel) (by decide +kernel) (by decide +kernel) (by decide +kernel) rfl
theorem pt_Y5 : pt_Yp 5 := pt_yp pt_5 751 65 (by decide +kernel) (by decide +kernel) (by decide +kernel) (by decide +kernel) rfl
theorem pt_Y6 : pt_Yp 6 := pt_yp pt_6 755 65 (by decide +kernel) (by decide +kernel) (by decide +kernel) (by decide +kernel) rfl
theorem pt_Y7 : pt_Yp 7 := pt_yp pt_7 763 65 (by decide +kernel) (by decide +kernel) (by decide +kernel) (by decide +kernel) rfl
theorem pt_Y8 : pt_Yp 8 := pt_yp pt_8 793 65 (by decide +kernel) (by decide +kernel) (by decide +kernel) (by decide +kernel) rfl
theorem pt_Y9 : pt_Yp 9 := pt_yp pt_9 538 66 (by decide +kernel) (by decide +kernel) (by decide +kernel) (by decide +kernel) rfl
theorem pt_Y10 : pt_Yp 10 := pt_yp pt_10 542 66 (by decide +kernel) (by decide +kernel) (by decide +kernel) (by decide +kernel) rfl
theorem pt_Y11 : pt_Yp 11 := pt_yp pt_11 574 66 (by decide +kernel) (by decide +kernel) (by decide +kernel) (by decide +kernel) rfl
theorem pt_Y12 : pt_Yp 12 := pt_yp pt_12 311 64 (by decide +kernel) (by decide +kernel) (by decide +kernel) (by decide +kernel) rfl
theorem pt_Y13 : pt_Yp 13 := pt_yp pt_13 316 64 (by decide +kernel) (by decide +kernel) (by decide +kernel) (by decide +kernel) rfl
theorem pt_Y14 : pt_Yp 14 := pt_yp pt_14 323 64 (by decide +kernel) (by decide +kernel) (by decide +kernel) (by decide +kernel) rfl
theorem pt_Y15 : pt_Yp 15 := pt_yp pt_15 327 64 (by decide +kernel) (by decide +kernel) (by decide +kernel) (by decide +kernel) rfl
theorem pt_Y16 : pt_Yp 16 := pt_yp pt_16 331 64 (by decide +kernel) (by decide +kernel) (by decide +kernel) (by decide +kernel) rfl
theorem pt_Y17 : pt_Yp 17 := pt_yp pt_17 335 64 (by decide +kernel) (by decide +kernel) (by decide +kernel) (by decide +kernel) rfl
theorem pt_Y18 : pt_Yp 18 := pt_yp pt_18 340 64 (by decide +kernel) (by decide +kernel) (by decide +kernel) (by decide +kernel) rfl
theorem pt_Y19 : pt_Yp 19 := pt_yp pt_19 393 64 (by decide +kernel) (by decide +kernel) (by decide +kernel) (by decide +kernel) rfl
theorem pt_Y20 : pt_Yp 20 := pt_yp pt_20 397 64 (by decide +kernel) (by decide +kernel) (by decide +kernel) (by decide +kernel) rfl
theorem pt_Y21 : pt_Yp 21 := pt_yp pt_21 401 64 (by decide +kernel) (by decide +kernel) (by decide +kernel) (by decide +kernel) rfl
theorem pt_Y22 : pt_Yp 22 := pt_yp pt_22 406 64 (by decide +kernel) (by decide +kernel) (by decide +kernel) (by decide +kernel) rfl
theorem pt_Y23 : pt_Yp 23 := pt_yp pt_23 413 64 (by decide +kernel) (by decide +kernel) (by decide +kernel) (by decide +kernel) rfl
theorem pt_Y24 : pt_Yp 24 := pt_yp pt_24 417 64 (by decide +kernel) (by decide +kernel) (by decide +kernel) (by decide +kernel) rfl
theorem pt_Y25 : pt_Yp 25 := pt_yp pt_25 422 64 (by decide +kernel) (by decide +kernel) (by decide +kernel) (by decide +kernel) rfl
theorem pt_Y26 : pt_Yp 26 := pt_yp pt_26 466 64 (by decide +kernel) (by decide +kernel) (by decide +kernel) (by decide +kernel) rfl
theorem pt_Y27 : pt_Yp 27 := pt_yp pt_27 295 63 (by decide +kernel) (by decide +kernel) (by decide +kernel) (by decide +kernel) rfl
theorem pt_Y28 : pt_Yp 28 := pt_yp pt_28 299 63 (by decide +kernel) (by decide +kernel) (by decide +kernel) (by decide +kernel) rfl
theorem pt_Y29 : pt_Yp 29 := pt_yp pt_29 211 67 (by decide +kernel) (by decide +kernel) (by decide +kernel) (by decide +kernel) rfl
theorem pt_Y30 : pt_Yp 30 := pt_yp pt_30 426 67 (by decide +kernel) (by decide +kernel) (by decide +kernel) (by decide +kernel) rfl
theorem pt_Y31 : pt_Yp 31 := pt_yp pt_31 430 67 (by decide +kernel) (by decide +kernel) (by decide +kernel) (by decide +kernel) rfl
theorem pt_Y32 : pt_Yp 32 := pt_yp pt_32 434 67 (by decide +kernel) (by decide +kernel) (by decide +kernel) (by decide +kernel) rfl
theorem pt_Y33 : pt_Yp 33 := pt_yp pt_33 438 67 (by decide +kernel) (by decide +kernel) (by decide +kernel) (by decide +kernel) rfl
theorem pt_Y34 : pt_Yp 34 := pt_yp pt_34 445 67 (by decide +kernel) (by decide +kernel) (by decide +kernel) (by decide +kernel) rfl
theorem pt_Y35 : pt_Yp 35 := pt_yp pt_35 449 67 (by decide +kernel) (by decide +kernel) (by decide +kernel) (by decide +kernel) rfl
theorem pt_Y36 : pt_Yp 36 := pt_yp pt_36 454 67 (by decide +kernel) (by decide +kernel) (by decide +kernel) (by decide +kernel) rfl
theorem pt_Y37 : pt_Yp 37 := pt_yp pt_37 459 67 (by decide +kernel) (by decide +kernel) (by decide +kernel) (by decide +kernel) rfl
theorem pt_Y38 : pt_Yp 38 := pt_yp pt_38 470 67 (by decide +kernel) (by decide +kernel) (by decide +kernel) (by decide +kernel) rfl
theorem pt_Y39 : pt_Yp 39 := pt_yp pt_39 481 67 (by decide +kernel) (by decide +kernel) (by decide +kernel) (by decide +kernel) rfl
theorem pt_Y40 : pt_Yp 40 := pt_yp pt_40 505 67 (by decide +kernel) (by decide +kernel) (by decide +kernel) (by decide +kernel) rfl
theorem pt_Y41 : pt_Yp 41 := pt_yp pt_41 509 67 (by decide +kernel) (by decide +kernel) (by decide +kernel) (by decide +kernel) rfl
theorem pt_Y42 : pt_Yp 42 := pt_yp pt_42 521 67 (by decide +kernel) (by decide +kernel) (by decide +kernel) (by decide +kernel) rfl
theorem pt_Y43 : pt_Yp 43 := pt_yp pt_43 525 67 (by decide +kernel) (by decide +kernel) (by decide +kernel) (by decide +kernel) rfl
theorem pt_Y44 : pt_Yp 44 := pt_yp pt_44 578 67 (by decide +kernel) (by decide +kernel) (by decide +kernel) (by decide +kernel) rfl
theorem pt_Y45 : pt_Yp 45 := pt_yp pt_45 582 67 (by decide +kernel) (by decide +kernel) (by decide +kernel) (by decide +kernel) rfl
theorem pt_Y46 : pt_Yp 46 := pt_yp pt_46 671 67 (by decide +kernel) (by decide +kernel) (by decide +kernel) (by decide +kernel) rfl
theorem pt_Y47 : pt_Yp 47 := pt_yp pt_47 674 67 (by decide +kernel) (by decide +kernel) (by decide +kernel) (by decide +kernel) rfl
theorem pt_Y48 : pt_Yp 48 := pt_yp pt_48 687 67 (by decide +kernel) (by decide +kernel) (by decide +kernel) (by decide +kernel) rfl
theorem pt_Y49 : pt_Yp 49 := pt_yp pt_49 691 67 (by decide +kernel) (by decide +kernel) (by decide +kernel) (by decide +kernel) rfl
theorem pt_Y50 : pt_Yp 50 := pt_yp pt_50 696 67 (by decide +kernel) (by decide +kernel) (by decide +kernel) (by decide +kernel) rfl
theorem pt_Y51 : pt_Yp 51 := pt_yp pt_51 701 67 (by decide +kernel) (by decide +kernel) (by decide +kernel) (by decide +kernel) rfl
theorem pt_Y52 : pt_Yp 52 := pt_yp pt_52 705 67 (by decide +kernel) (by decide +kernel) (by decide +kernel) (by decide +kernel) rfl
theorem pt_Y53 : pt_Yp 53 := pt_yp pt_53 709 67 (by decide +kernel) (by decide +kernel) (by decide +kernel) (by decide +kernel) rfl
theorem pt_Y54 : pt_Yp 54 := pt_yp pt_54 713 67 (by decide +kernel) (by decide +kernel) (by decide +kernel) (by decide +kernel) rfl
theorem pt_Y55 : pt_Yp 55 := pt_yp pt_55 291 62 (by decide +kernel) (by decide +kernel) (by decide +kernel) (by decide +kernel) rfl
theorem pt_Y56 : pt_Yp 56 := pt_yp pt_56 303 62 (by decide +kernel) (by decide +kernel) (by decide +kernel) (by decide +kernel) rfl
theorem pt_Y57 : pt_Yp 57 := pt_yp pt_57 307 62 (by decide +kernel) (by decide +kernel) (by decide +kernel) (by decide +kernel) rfl
theorem pt_Y58 : pt_Yp 58 := pt_yp pt_58 473 62 (by decide +kernel) (by decide +kernel) (by decide +kernel) (by decide +kernel) rfl
theorem pt_Y59 : pt_Yp 59 := pt_yp pt_59 476 62 (by decide +kernel) (by decide +kernel) (by decide +kernel) (by decide +kernel) rfl
theorem pt_Y60 : pt_Yp 60 := pt_yp pt_60 487 62 (by decide +kernel) (by decide +kernel) (by decide +kernel) (by decide +kernel) rfl
theorem pt_Y61 : pt_Yp 61 := pt_yp pt_61 491 62 (by decide +kernel) (by decide +kernel) (by decide +kernel) (by decide +kernel) rfl
theorem pt_Y62 : pt_Yp 62 := pt_yp pt_62 498 62 (by decide +kernel) (by decide +kernel) (by decide +kernel) (by decide +kernel) rfl
theorem pt_Y63 : pt_Yp 63 := pt_yp pt_63 501 62 (by decide +kernel) (by decide +kernel) (by decide +kernel) (by decide +kernel) rfl
theorem pt_Y64 : pt_Yp 64 := pt_yp pt_64 513 62 (by decide +kernel) (by decide +kernel) (by decide +kernel) (by decide +kernel) rfl
theorem pt_Y65 : pt_Yp 65 := pt_yp pt_65 517 62 (by decide +kernel) (by decide +kernel) (by decide +kernel) (by decide +kernel) rfl
theorem pt_Y66 : pt_Yp 66 := pt_yp pt_66 529 62 (by decide +kernel) (by decide +kernel) (by decide +kernel) (by decide +kernel) rfl
theorem pt_Y67 : pt_Yp 67 := pt_yp pt_67 546 62 (by decide +kernel) (by decide +kernel) (by decide +kernel) (by decide +kernel) rfl
theorem pt_Y68 : pt_Yp 68 := pt_yp pt_68 554 62 (by decide +kernel) (by decide +kernel) (by decide +kernel) (by decide +kernel) rfl
theorem pt_Y69 : pt_Yp 69 := pt_yp pt_69 557 62 (by decide +kernel) (by decide +kernel) (by decide +kernel) (by decide +kernel) rfl
theorem pt_Y70 : pt_Yp 70 := pt_yp pt_70 563 62 (by decide +kernel) (by decide +kernel) (by decide +kernel) (by decide +kernel) rfl
theorem pt_Y71 : pt_Yp 71 := pt_yp pt_71 566 62 (by decide +kernel) (by decide +kernel) (by decide +kernel) (by decide +kernel) rfl
theorem pt_Y72 : pt_Yp 72 := pt_yp pt_72 570 62 (by decide +kernel) (by decide +kernel) (by decide +kernel) (by decide +kernel) rfl
theorem pt_Y73 : pt_Yp 73 := pt_yp pt_73 590 62 (by decide +kernel) (by decide +kernel) (by decide +kernel) (by decide +kernel) rfl
theorem pt_Y74 : pt_Yp 74 := pt_yp pt_74 663 62 (by decide +kernel) (by decide +kernel) (by decide +kernel) (by decide +kernel) rfl
theorem pt_Y75 : pt_Yp 75 := pt_yp pt_75 666 62 (by decide +kernel) (by decide +kernel) (by decide +kernel) (by decide +kernel) rfl
theorem pt_Y76 : pt_Yp 76 := pt_yp pt_76 682 62 (by decide +kernel) (by decide +kernel) (by decide +kernel) (by decide +kernel) rfl
theorem pt_Y77 : pt_Yp 77 := pt_yp pt_77 721 62 (by decide +kernel) (by decide +kernel) (by decide +kernel) (by decide +kernel) rfl
theorem pt_Y78 : pt_Yp 78 := pt_yp pt_78 771 62 (by decide +kernel) (by decide +kernel) (by decide +kernel) (by decide +kernel) rfl
theorem pt_Y79 : pt_Yp 79 := pt_yp pt_79 778 62 (by decide +kernel) (by decide +kernel) (by decide +kernel) (by decide +kernel) rfl
theorem pt_Y80 : pt_Yp 80 := pt_yp pt_80 782 62 (by decide +kernel) (by decide +kernel) (by decide +kernel) (by decide +kernel) rfl
theorem pt_Y81 : pt_Yp 81 := pt_yp pt_81 789 62 (by decide +kernel) (by decide +kernel) (by decide +kernel) (by decide +kernel) rfl
theorem pt_Y82 : pt_Yp 82 := pt_yp pt_82 800 62 (by decide +kernel) (by decide +kernel) (by decide +kernel) (by decide +kernel) rfl
theorem pt_Y83 : pt_Yp 83 := pt_yp pt_83 807 62 (by decide +kernel) (by decide +kernel) (by decide +kernel) (by decide +kernel) rfl
theorem pt_Y84 : pt_Yp 84 := pt_yp pt_84 811 62 (by decide +kernel) (by decide +kernel) (by decide +kernel) (by decide +kernel) rfl
theorem pt_Y85 : pt_Yp 85 := pt_yp pt_85 821 62 (by decide +kernel) (by decide +kernel) (by decide +kernel) (by decide +kernel) rfl
theorem pt_Y86 : pt_Yp 86 := pt_yp pt_86 826 68 (by decide +kernel) (by decide +kernel) (by decide +kernel) (by decide +kernel) rfl
theorem pt_Y87 : pt_Yp 87 := pt_yp pt_87 830 68 (by decide +kernel) (by decide +kernel) (by decide +kernel) (by decide +kernel) rfl
theorem pt_Y88 : pt_Yp 88 := pt_yp pt_88 835 68 (by decide +kernel) (by decide +kernel) (by decide +kernel) (by decide +kernel) rfl
theorem pt_Y89 : pt_Yp 89 := pt_yp pt_89 839 68 (by decide +kernel) (by decide +kernel) (by decide +kernel) (by decide +kernel) rfl
theorem pt_Y90 : pt_Yp 90 := pt_yp pt_90 847 68 (by decide +kernel) (by decide +kernel) (by decide +kernel) (by decide +kernel) rfl
theorem pt_Y91 : pt_Yp 91 := pt_yp pt_91 921 68 (by decide +kernel) (by decide +kernel) (by decide +kernel) (by decide +kernel) rfl
theorem pt_Y92 : pt_Yp 92 := pt_yp pt_92 925 68 (by decide +kernel) (by decide +kernel) (by decide +kernel) (by decide +kernel) rfl
theorem pt_Y93 : pt_Yp 93 := pt_yp pt_93 928 68 (by decide +kernel) (by decide +kernel) (by decide +kernel) (by decide +kernel) rfl
theorem pt_Y94 : pt_Yp 94 := pt_yp pt_94 931 68 (by decide +kernel) (by decide +kernel) (by decide +kernel) (by decide +kernel) rfl
theorem pt_Y95 : pt_Yp 95 := pt_yp pt_95 935 68 (by decide +kernel) (by decide +kernel) (by decide +kernel) (by decide +kernel) rfl
theorem pt_Y96 : pt_Yp 96 := pt_yp pt_96 940 68 (by decide +kernel) (by decide +kernel) (by decide +kernel) (by decide +kernel) rfl
theorem pt_Y97 : pt_Yp 97 := pt_yp pt_97 944 68 (by decide +kernel) (by decide +kernel) (by decide +kernel) (by decide +kernel) rfl
theorem pt_Y98 : pt_Yp 98 := pt_yp pt_98 948 68 (by decide +kernel) (by decide +kernel) (by decide +kernel) (by decide +kernel) rfl
theorem pt_Y99 : pt_Yp 99 := pt_yp pt_99 951 68 (by decide +kernel) (by decide +kernel) (by decide +kernel) (by decide +kernel) rfl
theorem pt_Y100 : pt_Yp 100 := pt_yp pt_100 955 68 (by decide +kernel) (by decide +kernel) (by decide +kernel) (by decide +kernel) rfl
theorem pt_Y101 : pt_Yp 101 := pt_yp pt_101 959 68 (by decide +kernel) (by decide +kernel) (by decide +kernel) (by decide +kernel) rfl
theorem pt_Y102 : pt_Yp 102 := pt_yp pt_102 963 68 (by decide +kernel) (by decide +kernel) (by decide +kernel) (by decide +kernel) rfl
theorem pt_Y103 : pt_Yp 103 := pt_yp pt_103 968 68 (by decide +kernel) (by decide +kernel) (by decide +kernel) (by decide +kernel) rfl
theorem pt_Y104 : pt_Yp 104 := pt_yp pt_104 972 68 (by decide +kernel) (by decide +kernel) (by decide +kernel) (by decide +kernel) rfl
theorem pt_Y105 : pt_Yp 105 := pt_yp pt_105 977 68 (by decide +kernel) (by decide +kernel) (by decide +kernel) (by decide +kernel) rfl
theorem pt_Y106 : pt_Yp 106 := pt_yp pt_106 980 68 (by decide +kernel) (by decide +kernel) (by decide +kernel) (by decide +kernel) rfl
theorem pt_Y107 : pt_Yp 107 := pt_yp pt_107 984 68 (by decide +kernel) (by decide +kernel) (by decide +kernel) (by decide +kernel) rfl
theorem pt_Y108 : pt_Yp 108 := pt_yp pt_108 987 68 (by decide +kernel) (by decide +kernel) (by decide +kernel) (by decide +kernel) rfl
theorem pt_Y109 : pt_Yp 109 := pt_yp pt_109 992 68 (by decide +kernel) (by decide +kernel) (by decide +kernel) (by decide +kernel) rfl
theorem pt_Y110 : pt_Yp 110 := pt_yp pt_110 996 68 (by decide +kernel) (by decide +kernel) (by decide +kernel) (by decide +kernel) rfl
theorem pt_Y111 : pt_Yp 111 := pt_yp pt_111 999 68 (by decide +kernel) (by decide +kernel) (by decide +kernel) (by decide +kernel) rfl
theorem pt_Y112 : pt_Yp 112 := pt_yp pt_112 1002 68 (by decide +kernel) (by decide +kernel) (by decide +kernel) (by decide +kernel) rfl
theorem pt_Y113 : pt_Yp 113 := pt_yp pt_113 1005 68 (by decide +kernel) (by decide +kernel) (by decide +kernel) (by decide +kernel) rfl
theorem pt_Y114 : pt_Yp 114 := pt_yp pt_114 1008 68 (by decide +kernel) (by decide +kernel) (by decide +kernel) (by decide +kernel) rfl
theorem pt_Y115 : pt_Yp 115 := pt_yp pt_115 1011 68 (by decide +kernel) (by decide +kernel) (by decide +kernel) (by decide +kernel) rfl
theorem pt_Y116 : pt_Yp 116 := pt_yp pt_116 1015 68 (by decide +kernel) (by decide +kernel) (by decide +kernel) (by decide +kernel) rfl
theorem pt_Y117 : pt_Yp 117 := pt_yp pt_117 1019 68 (by decide +kernel) (by decide +kernel) (by decide +kernel) (by decide +kernel) rfl
theorem pt_Y118 : pt_Yp 118 := pt_yp pt_118 1023 68 (by decide +kernel) (by decide +kernel) (by decide +kernel) (by decide +kernel) rfl
theorem pt_Y119 : pt_Yp 119 := pt_yp pt_119 1027 68 (by decide +kernel) (by decide +kernel) (by decide +kernel) (by decide +kernel) rfl
theorem pt_Y120 : pt_Yp 120 := pt_yp pt_120 1031 68 (by decide +kernel) (by decide +kernel) (by decide +kernel) (by decide +kernel) rfl
theorem pt_Y121 : pt_Yp 121 := pt_yp pt_121 1034 68 (by decide +kernel) (by decide +kernel) (by decide +kernel) (by decide +kernel) rfl
theorem pt_Y122 : pt_Yp 122 := pt_yp pt_122 1038 68 (by decide +kernel) (by decide +kernel) (by decide +kernel) (by decide +kernel) rfl
theorem pt_Y123 : pt_Yp 123 := pt_yp pt_123 1042 68 (by decide +kernel) (by decide +kernel) (by decide +kernel) (by decide +kernel) rfl
theorem pt_Y124 : pt_Yp 124 := pt_yp pt_124 1046 68 (by decide +kernel) (by decide +kernel) (by decide +kernel) (by decide +kernel) rfl
theorem pt_Y125 : pt_Yp 125 := pt_yp pt_125 1049 68 (by decide +kernel) (by decide +kernel) (by decide +kernel) (by decide +kernel) rfl
theorem pt_Y126 : pt_Yp 126 := pt_yp pt_126 1053 68 (by decide +kernel) (by decide +kernel) (by decide +kernel) (by decide +kernel) rfl
theorem pt_Y127 : pt_Yp 127 := pt_yp pt_127 1057 68 (by decide +kernel) (by decide +kernel) (by decide +kernel) (by decide +kernel) rfl
theorem pt_Y128 : pt_Yp 128 := pt_yp pt_128 1061 68 (by decide +kernel) (by decide +kernel) (by decide +kernel) (by decide +kernel) rfl
theorem pt_Y129 : pt_Yp 129 := pt_yp pt_129 1065 68 (by decide +kernel) (by decide +kernel) (by decide +kernel) (by decide +kernel) rfl
theorem pt_Y130 : pt_Yp 130 := pt_yp pt_130 1069 68 (by decide +kernel) (by decide +kernel) (by decide +kernel) (by decide +kernel) rfl
theorem pt_Y131 : pt_Yp 131 := pt_yp pt_131 1073 68 (by decide +kernel) (by decide +kernel) (by decide +kernel) (by decide +kernel) rfl
theorem pt_Y132 : pt_Yp 132 := pt_yp pt_132 1077 68 (by decide +kernel) (by decide +kernel) (by decide +kernel) (by decide +kernel) rfl
theorem pt_Y133 : pt_Yp 133 := pt_yp pt_133 1080 68 (by decide +kernel) (by decide +kernel) (by decide +kernel) (by decide +kernel) rfl
theorem pt_Y134 : pt_Yp 134 := pt_yp pt_134 1084 68 (by decide +kernel) (by decide +kernel) (by decide +kernel) (by decide +kernel) rfl
theorem pt_Y135 : pt_Yp 135 := pt_yp pt_135 1088 68 (by decide +kernel) (by decide +kernel) (by decide +kernel) (by decide +kernel) rfl
theorem pt_Y136 : pt_Yp 136 := pt_yp pt_136 1092 68 (by decide +kernel) (by decide +kernel) (by decide +kernel) (by decide +kernel) rfl
theorem pt_Y137 : pt_Yp 137 := pt_yp pt_137 1096 68 (by decide +kernel) (by decide +kernel) (by decide +kernel) (by decide +kernel) rfl
theorem pt_Y138 : pt_Yp 138 := pt_yp pt_138 1101 68 (by decide +kernel) (by decide +kernel) (by decide +kernel) (by decide +kernel) rfl
theorem pt_Y139 : pt_Yp 139 := pt_yp pt_139 1105 68 (by decide +kernel) (by decide +kernel) (by decide +kernel) (by decide +kernel) rfl
theorem pt_Y140 : pt_Yp 140 := pt_yp pt_140 1109 68 (by decide +kernel) (by decide +kernel) (by decide +kernel) (by decide +kernel) rfl
theorem pt_Y141 : pt_Yp 141 := pt_yp pt_141 1113 68 (by decide +kernel) (by decide +kernel) (by decide +kernel) (by decide +kernel) rfl
theorem pt_Y142 : pt_Yp 142 := pt_yp pt_142 1117 68 (by decide +kernel) (by decide +kernel) (by decide +kernel) (by decide +kernel) rfl
theorem pt_Y143 : pt_Yp 143 := pt_yp pt_143 1121 68 (by decide +kernel) (by decide +kernel) (by decide +kernel) (by decide +kernel) rfl
theorem pt_Y144 : pt_Yp 144 := pt_yp pt_144 1125 68 (by decide +kernel) (by decide +kernel) (by decide +kernel) (by decide +kernel) rfl
theorem pt_Y145 : pt_Yp 145 := pt_yp pt_145 1129 68 (by decide +kernel) (by decide +kernel) (by decide +kernel) (by decide +kernel) rfl
theorem pt_Y146 : pt_Yp 146 := pt_yp pt_146 1133 68 (by decide +kernel) (by decide +kernel) (by decide +kernel) (by decide +kernel) rfl
theorem pt_Y147 : pt_Yp 147 := pt_yp pt_147 1136 68 (by decide +kernel) (by decide +kernel) (by decide +kernel) (by decide +kernel) rfl
theorem pt_Y148 : pt_Yp 148 := pt_yp pt_148 1142 68 (by decide +kernel) (by decide +kernel) (by decide +kernel) (by decide +kernel) rfl
theorem pt_Y149 : pt_Yp 149 := pt_yp pt_149 1146 68 (by decide +kernel) (by decide +kernel) (by decide +kernel) (by decide +kernel) rfl
theorem pt_Y150 : pt_Yp 150 := pt_yp pt_150 1151 68 (by decide +kernel) (by decide +kernel) (by decide +kernel) (by decide +kernel) rfl
theorem pt_Y151 : pt_Yp 151 := pt_yp pt_151 1154 68 (by decide +kernel) (by decide +kernel) (by decide +kernel) (by decide +kernel) rfl
theorem pt_Y152 : pt_Yp 152 := pt_yp pt_152 1158 68 (by decide +kernel) (by decide +kernel) (by decide +kernel) (by decide +kernel) rfl
theorem pt_Y153 : pt_Yp 153 := pt_yp pt_153 1162 68 (by decide +kernel) (by decide +kernel) (by decide +kernel) (by decide +kernel) rfl
theorem pt_Y154 : pt_Yp 154 := pt_yp pt_154 1166 68 (by decide +kernel) (by decide +kernel) (by decide +kernel) (by decide +kernel) rfl
theorem pt_Y155 : pt_Yp 155 := pt_yp pt_155 1170 68 (by decide +kernel) (by decide +kernel) (by decide +kernel) (by decide +kernel) rfl
theorem pt_Y156 : pt_Yp 156 := pt_yp pt_156 1174 68 (by decide +kernel) (by decide +kernel) (by decide +kernel) (by decide +kernel) rfl
theorem pt_Y157 : pt_Yp 157 := pt_yp pt_157 1178 68 (by decide +kernel) (by decide +kernel) (by decide +kernel) (by decide +kernel) rfl
theorem pt_Y158 : pt_Yp 158 := pt_yp pt_158 1182 68 (by decide +kernel) (by decide +kernel) (by decide +kernel) (by decide +kernel) rfl
theorem pt_Y159 : pt_Yp 159 := pt_yp pt_159 1186 68 (by decide +kernel) (by decide +kernel) (by decide +kernel) (by decide +kernel) rfl
theorem pt_Y160 : pt_Yp 160 := pt_yp pt_160 1190 68 (by decide +kernel) (by decide +kernel) (by decide +kernel) (by decide +kernel) rfl
theorem pt_Y161 : pt_Yp 161 := pt_yp pt_161 1194 68 (by decide +kernel) (by decide +kernel) (by decide +kernel) (by decide +kernel) rfl
theorem pt_Y162 : pt_Yp 162 := pt_yp pt_162 1199 68 (by decide +kernel) (by decide +kernel) (by decide +kernel) (by decide +kernel) rfl
theorem pt_Y163 : pt_Yp 163 := pt_yp pt_163 1203 68 (by decide +kernel) (by decide +kernel) (by decide +kernel) (by decide +kernel) rfl
theorem pt_Y164 : pt_Yp 164 := pt_yp pt_164 1207 68 (by decide +kernel) (by decide +kernel) (by decide +kernel) (by decide +kernel) rfl
theorem pt_Y165 : pt_Yp 165 := pt_yp pt_165 319 69 (by decide +kernel) (by decide +kernel) (by decide +kernel) (by decide +kernel) rfl
theorem pt_Y166 : pt_Yp 166 := pt_yp pt_166 441 69 (by decide +kernel) (by decide +kernel) (by decide +kernel) (by decide +kernel) rfl
theorem pt_Y167 : pt_Yp 167 := pt_yp pt_167 759 69 (by decide +kernel) (by decide +kernel) (by decide +kernel) (by decide +kernel) rfl
def pm_tk (t : FieldType) : Nat := match t with
  | .int => 0
  | .long => 1
  | .object _ => 2
  | .array _ => 2
  | _ => 8
def pt_Cl (ci : Nat) (C : String) (T : u_T) (N : Nat) (ty : Nat → FieldType) : Prop := vwCl[ci]? = some (C, T, N) ∧ (∀ w ∈ u_ws C T N, w ∈ pm_tb) ∧ (∀ k, k < N → parseFieldDescriptor (T k).2.2.1 = some (ty k)) ∧ ∀ a, a < N → ∀ b, b < N → a ≠ b → (T a).2.1 ≠ (T b).2.1
theorem pt_C0 : pt_Cl 0 RX0 TX0 12 tyX0 := ⟨rfl, (show ∀ w ∈ [u_lay RX0 TX0 0, u_lay RX0 TX0 1, u_lay RX0 TX0 2, u_lay RX0 TX0 3, u_lay RX0 TX0 4, u_lay RX0 TX0 5, u_lay RX0 TX0 6, u_lay RX0 TX0 7, u_lay RX0 TX0 8, u_lay RX0 TX0 9, u_lay RX0 TX0 10, u_lay RX0 TX0 11], w ∈ pm_tb from List.forall_mem_cons.mpr ⟨pm_in 155 (by decide +kernel) rfl, List.forall_mem_cons.mpr ⟨pm_in 157 (by decide +kernel) rfl, List.forall_mem_cons.mpr ⟨pm_in 159 (by decide +kernel) rfl, List.forall_mem_cons.mpr ⟨pm_in 161 (by decide +kernel) rfl, List.forall_mem_cons.mpr ⟨pm_in 163 (by decide +kernel) rfl, List.forall_mem_cons.mpr ⟨pm_in 165 (by decide +kernel) rfl, List.forall_mem_cons.mpr ⟨pm_in 167 (by decide +kernel) rfl, List.forall_mem_cons.mpr ⟨pm_in 169 (by decide +kernel) rfl, List.forall_mem_cons.mpr ⟨pm_in 171 (by decide +kernel) rfl, List.forall_mem_cons.mpr ⟨pm_in 173 (by decide +kernel) rfl, List.forall_mem_cons.mpr ⟨pm_in 175 (by decide +kernel) rfl, List.forall_mem_cons.mpr ⟨pm_in 177 (by decide +kernel) rfl, fun _ h => absurd h List.not_mem_nil⟩⟩⟩⟩⟩⟩⟩⟩⟩⟩⟩⟩), tyX0_ok, nmX0⟩
theorem pt_C1 : pt_Cl 1 RX1 TX1 4 tyX1 := ⟨rfl, (show ∀ w ∈ [u_lay RX1 TX1 0, u_lay RX1 TX1 1, u_lay RX1 TX1 2, u_lay RX1 TX1 3], w ∈ pm_tb from List.forall_mem_cons.mpr ⟨pm_in 193 (by decide +kernel) rfl, List.forall_mem_cons.mpr ⟨pm_in 195 (by decide +kernel) rfl, List.forall_mem_cons.mpr ⟨pm_in 197 (by decide +kernel) rfl, List.forall_mem_cons.mpr ⟨pm_in 199 (by decide +kernel) rfl, fun _ h => absurd h List.not_mem_nil⟩⟩⟩⟩), tyX1_ok, nmX1⟩
theorem pt_C2 : pt_Cl 2 RX2 TX2 7 tyX2 := ⟨rfl, (show ∀ w ∈ [u_lay RX2 TX2 0, u_lay RX2 TX2 1, u_lay RX2 TX2 2, u_lay RX2 TX2 3, u_lay RX2 TX2 4, u_lay RX2 TX2 5, u_lay RX2 TX2 6], w ∈ pm_tb from List.forall_mem_cons.mpr ⟨pm_in 118 (by decide +kernel) rfl, List.forall_mem_cons.mpr ⟨pm_in 120 (by decide +kernel) rfl, List.forall_mem_cons.mpr ⟨pm_in 122 (by decide +kernel) rfl, List.forall_mem_cons.mpr ⟨pm_in 124 (by decide +kernel) rfl, List.forall_mem_cons.mpr ⟨pm_in 126 (by decide +kernel) rfl, List.forall_mem_cons.mpr ⟨pm_in 128 (by decide +kernel) rfl, List.forall_mem_cons.mpr ⟨pm_in 130 (by decide +kernel) rfl, fun _ h => absurd h List.not_mem_nil⟩⟩⟩⟩⟩⟩⟩), tyX2_ok, nmX2⟩
theorem pt_C3 : pt_Cl 3 RX3 TX3 2 tyX3 := ⟨rfl, (show ∀ w ∈ [u_lay RX3 TX3 0, u_lay RX3 TX3 1], w ∈ pm_tb from List.forall_mem_cons.mpr ⟨pm_in 97 (by decide +kernel) rfl, List.forall_mem_cons.mpr ⟨pm_in 99 (by decide +kernel) rfl, fun _ h => absurd h List.not_mem_nil⟩⟩), tyX3_ok, nmX3⟩
theorem pt_C4 : pt_Cl 4 RX4 TX4 12 tyX4 := ⟨rfl, (show ∀ w ∈ [u_lay RX4 TX4 0, u_lay RX4 TX4 1, u_lay RX4 TX4 2, u_lay RX4 TX4 3, u_lay RX4 TX4 4, u_lay RX4 TX4 5, u_lay RX4 TX4 6, u_lay RX4 TX4 7, u_lay RX4 TX4 8, u_lay RX4 TX4 9, u_lay RX4 TX4 10, u_lay RX4 TX4 11], w ∈ pm_tb from List.forall_mem_cons.mpr ⟨pm_in 241 (by decide +kernel) rfl, List.forall_mem_cons.mpr ⟨pm_in 243 (by decide +kernel) rfl, List.forall_mem_cons.mpr ⟨pm_in 245 (by decide +kernel) rfl, List.forall_mem_cons.mpr ⟨pm_in 247 (by decide +kernel) rfl, List.forall_mem_cons.mpr ⟨pm_in 249 (by decide +kernel) rfl, List.forall_mem_cons.mpr ⟨pm_in 251 (by decide +kernel) rfl, List.forall_mem_cons.mpr ⟨pm_in 253 (by decide +kernel) rfl, List.forall_mem_cons.mpr ⟨pm_in 255 (by decide +kernel) rfl, List.forall_mem_cons.mpr ⟨pm_in 257 (by decide +kernel) rfl, List.forall_mem_cons.mpr ⟨pm_in 259 (by decide +kernel) rfl, List.forall_mem_cons.mpr ⟨pm_in 261 (by decide +kernel) rfl, List.forall_mem_cons.mpr ⟨pm_in 263 (by decide +kernel) rfl, fun _ h => absurd h List.not_mem_nil⟩⟩⟩⟩⟩⟩⟩⟩⟩⟩⟩⟩), tyX4_ok, nmX4⟩
theorem pt_C5 : pt_Cl 5 RX5 TX5 7 tyX5 := ⟨rfl, (show ∀ w ∈ [u_lay RX5 TX5 0, u_lay RX5 TX5 1, u_lay RX5 TX5 2, u_lay RX5 TX5 3, u_lay RX5 TX5 4, u_lay RX5 TX5 5, u_lay RX5 TX5 6], w ∈ pm_tb from List.forall_mem_cons.mpr ⟨pm_in 273 (by decide +kernel) rfl, List.forall_mem_cons.mpr ⟨pm_in 275 (by decide +kernel) rfl, List.forall_mem_cons.mpr ⟨pm_in 277 (by decide +kernel) rfl, List.forall_mem_cons.mpr ⟨pm_in 279 (by decide +kernel) rfl, List.forall_mem_cons.mpr ⟨pm_in 281 (by decide +kernel) rfl, List.forall_mem_cons.mpr ⟨pm_in 283 (by decide +kernel) rfl, List.forall_mem_cons.mpr ⟨pm_in 285 (by decide +kernel) rfl, fun _ h => absurd h List.not_mem_nil⟩⟩⟩⟩⟩⟩⟩), tyX5_ok, nmX5⟩
theorem pt_C6 : pt_Cl 6 RX6 TX6 23 tyX6 := ⟨rfl, (show ∀ w ∈ [u_lay RX6 TX6 0, u_lay RX6 TX6 1, u_lay RX6 TX6 2, u_lay RX6 TX6 3, u_lay RX6 TX6 4, u_lay RX6 TX6 5, u_lay RX6 TX6 6, u_lay RX6 TX6 7, u_lay RX6 TX6 8, u_lay RX6 TX6 9, u_lay RX6 TX6 10, u_lay RX6 TX6 11, u_lay RX6 TX6 12, u_lay RX6 TX6 13, u_lay RX6 TX6 14, u_lay RX6 TX6 15, u_lay RX6 TX6 16, u_lay RX6 TX6 17, u_lay RX6 TX6 18, u_lay RX6 TX6 19, u_lay RX6 TX6 20, u_lay RX6 TX6 21, u_lay RX6 TX6 22], w ∈ pm_tb from List.forall_mem_cons.mpr ⟨pm_in 871 (by decide +kernel) rfl, List.forall_mem_cons.mpr ⟨pm_in 873 (by decide +kernel) rfl, List.forall_mem_cons.mpr ⟨pm_in 875 (by decide +kernel) rfl, List.forall_mem_cons.mpr ⟨pm_in 877 (by decide +kernel) rfl, List.forall_mem_cons.mpr ⟨pm_in 879 (by decide +kernel) rfl, List.forall_mem_cons.mpr ⟨pm_in 881 (by decide +kernel) rfl, List.forall_mem_cons.mpr ⟨pm_in 883 (by decide +kernel) rfl, List.forall_mem_cons.mpr ⟨pm_in 885 (by decide +kernel) rfl, List.forall_mem_cons.mpr ⟨pm_in 887 (by decide +kernel) rfl, List.forall_mem_cons.mpr ⟨pm_in 889 (by decide +kernel) rfl, List.forall_mem_cons.mpr ⟨pm_in 891 (by decide +kernel) rfl, List.forall_mem_cons.mpr ⟨pm_in 893 (by decide +kernel) rfl, List.forall_mem_cons.mpr ⟨pm_in 895 (by decide +kernel) rfl, List.forall_mem_cons.mpr ⟨pm_in 897 (by decide +kernel) rfl, List.forall_mem_cons.mpr ⟨pm_in 899 (by decide +kernel) rfl, List.forall_mem_cons.mpr ⟨pm_in 901 (by decide +kernel) rfl, List.forall_mem_cons.mpr ⟨pm_in 903 (by decide +kernel) rfl, List.forall_mem_cons.mpr ⟨pm_in 905 (by decide +kernel) rfl, List.forall_mem_cons.mpr ⟨pm_in 907 (by decide +kernel) rfl, List.forall_mem_cons.mpr ⟨pm_in 909 (by decide +kernel) rfl, List.forall_mem_cons.mpr ⟨pm_in 911 (by decide +kernel) rfl, List.forall_mem_cons.mpr ⟨pm_in 913 (by decide +kernel) rfl, List.forall_mem_cons.mpr ⟨pm_in 915 (by decide +kernel) rfl, fun _ h => absurd h List.not_mem_nil⟩⟩⟩⟩⟩⟩⟩⟩⟩⟩⟩⟩⟩⟩⟩⟩⟩⟩⟩⟩⟩⟩⟩), tyX6_ok, nmX6⟩
def pt_Fp (q : Nat × Nat × Nat × Nat × Nat × Bool) : Prop := ∃ (C : String) (T : u_T) (N : Nat) (ty : Nat → FieldType), pt_Cl q.2.2.1 C T N ty ∧ q.2.2.2.1 < N ∧ Cond.fieldLink (pt_cn q.1) q.2.1 (T q.2.2.2.1).1 (T q.2.2.2.1).2.1 (T q.2.2.2.1).2.2.1 ∈ pm_tb ∧ (T q.2.2.2.1).2.2.2 = q.2.2.2.2.2 ∧ pm_tk (ty q.2.2.2.1) = q.2.2.2.2.1
theorem pt_f0_9 : pt_Fp (0, 9, 0, 0, 2, true) := ⟨RX0, TX0, 12, tyX0, pt_C0, by decide, pm_in 139 (by decide +kernel) rfl, rfl, rfl⟩
theorem pt_f0_77 : pt_Fp (0, 77, 0, 1, 0, false) := ⟨RX0, TX0, 12, tyX0, pt_C0, by decide, pm_in 141 (by decide +kernel) rfl, rfl, rfl⟩
theorem pt_f0_83 : pt_Fp (0, 83, 0, 2, 0, false) := ⟨RX0, TX0, 12, tyX0, pt_C0, by decide, pm_in 143 (by decide +kernel) rfl, rfl, rfl⟩
theorem pt_f0_98 : pt_Fp (0, 98, 0, 3, 0, false) := ⟨RX0, TX0, 12, tyX0, pt_C0, by decide, pm_in 145 (by decide +kernel) rfl, rfl, rfl⟩
theorem pt_f0_15 : pt_Fp (0, 15, 0, 4, 2, true) := ⟨RX0, TX0, 12, tyX0, pt_C0, by decide, pm_in 147 (by decide +kernel) rfl, rfl, rfl⟩
theorem pt_f0_19 : pt_Fp (0, 19, 0, 5, 2, true) := ⟨RX0, TX0, 12, tyX0, pt_C0, by decide, pm_in 148 (by decide +kernel) rfl, rfl, rfl⟩
theorem pt_f0_22 : pt_Fp (0, 22, 0, 6, 2, true) := ⟨RX0, TX0, 12, tyX0, pt_C0, by decide, pm_in 149 (by decide +kernel) rfl, rfl, rfl⟩
theorem pt_f0_25 : pt_Fp (0, 25, 0, 7, 2, true) := ⟨RX0, TX0, 12, tyX0, pt_C0, by decide, pm_in 150 (by decide +kernel) rfl, rfl, rfl⟩
theorem pt_f0_53 : pt_Fp (0, 53, 0, 8, 0, false) := ⟨RX0, TX0, 12, tyX0, pt_C0, by decide, pm_in 151 (by decide +kernel) rfl, rfl, rfl⟩
theorem pt_f0_42 : pt_Fp (0, 42, 0, 9, 0, false) := ⟨RX0, TX0, 12, tyX0, pt_C0, by decide, pm_in 152 (by decide +kernel) rfl, rfl, rfl⟩
theorem pt_f0_49 : pt_Fp (0, 49, 0, 10, 1, false) := ⟨RX0, TX0, 12, tyX0, pt_C0, by decide, pm_in 153 (by decide +kernel) rfl, rfl, rfl⟩
theorem pt_f0_74 : pt_Fp (0, 74, 0, 11, 1, false) := ⟨RX0, TX0, 12, tyX0, pt_C0, by decide, pm_in 154 (by decide +kernel) rfl, rfl, rfl⟩
theorem pt_f0_56 : pt_Fp (0, 56, 4, 7, 0, false) := ⟨RX4, TX4, 12, tyX4, pt_C4, by decide, pm_in 231 (by decide +kernel) rfl, rfl, rfl⟩
def pt_Fl0 : List (Nat × Nat × Nat × Nat × Nat × Bool) := [(0, 9, 0, 0, 2, true), (0, 77, 0, 1, 0, false), (0, 83, 0, 2, 0, false), (0, 98, 0, 3, 0, false), (0, 15, 0, 4, 2, true), (0, 19, 0, 5, 2, true), (0, 22, 0, 6, 2, true), (0, 25, 0, 7, 2, true), (0, 53, 0, 8, 0, false), (0, 42, 0, 9, 0, false), (0, 49, 0, 10, 1, false), (0, 74, 0, 11, 1, false), (0, 56, 4, 7, 0, false)]
theorem pt_Fl0_ok : ∀ q ∈ pt_Fl0, pt_Fp q := List.forall_mem_cons.mpr ⟨pt_f0_9, List.forall_mem_cons.mpr ⟨pt_f0_77, List.forall_mem_cons.mpr ⟨pt_f0_83, List.forall_mem_cons.mpr ⟨pt_f0_98, List.forall_mem_cons.mpr ⟨pt_f0_15, List.forall_mem_cons.mpr ⟨pt_f0_19, List.forall_mem_cons.mpr ⟨pt_f0_22, List.forall_mem_cons.mpr ⟨pt_f0_25, List.forall_mem_cons.mpr ⟨pt_f0_53, List.forall_mem_cons.mpr ⟨pt_f0_42, List.forall_mem_cons.mpr ⟨pt_f0_49, List.forall_mem_cons.mpr ⟨pt_f0_74, List.forall_mem_cons.mpr ⟨pt_f0_56, fun _ h => absurd h List.not_mem_nil⟩⟩⟩⟩⟩⟩⟩⟩⟩⟩⟩⟩⟩
theorem pt_f1_19 : pt_Fp (1, 19, 1, 0, 0, false) := ⟨RX1, TX1, 4, tyX1, pt_C1, by decide, pm_in 188 (by decide +kernel) rfl, rfl, rfl⟩
theorem pt_f1_9 : pt_Fp (1, 9, 1, 1, 2, true) := ⟨RX1, TX1, 4, tyX1, pt_C1, by decide, pm_in 190 (by decide +kernel) rfl, rfl, rfl⟩
theorem pt_f1_13 : pt_Fp (1, 13, 1, 2, 2, true) := ⟨RX1, TX1, 4, tyX1, pt_C1, by decide, pm_in 191 (by decide +kernel) rfl, rfl, rfl⟩
theorem pt_f1_16 : pt_Fp (1, 16, 1, 3, 2, true) := ⟨RX1, TX1, 4, tyX1, pt_C1, by decide, pm_in 192 (by decide +kernel) rfl, rfl, rfl⟩
theorem pt_f1_34 : pt_Fp (1, 34, 4, 1, 2, true) := ⟨RX4, TX4, 12, tyX4, pt_C4, by decide, pm_in 215 (by decide +kernel) rfl, rfl, rfl⟩
theorem pt_f1_37 : pt_Fp (1, 37, 4, 2, 2, true) := ⟨RX4, TX4, 12, tyX4, pt_C4, by decide, pm_in 219 (by decide +kernel) rfl, rfl, rfl⟩
def pt_Fl1 : List (Nat × Nat × Nat × Nat × Nat × Bool) := [(1, 19, 1, 0, 0, false), (1, 9, 1, 1, 2, true), (1, 13, 1, 2, 2, true), (1, 16, 1, 3, 2, true), (1, 34, 4, 1, 2, true), (1, 37, 4, 2, 2, true)]
theorem pt_Fl1_ok : ∀ q ∈ pt_Fl1, pt_Fp q := List.forall_mem_cons.mpr ⟨pt_f1_19, List.forall_mem_cons.mpr ⟨pt_f1_9, List.forall_mem_cons.mpr ⟨pt_f1_13, List.forall_mem_cons.mpr ⟨pt_f1_16, List.forall_mem_cons.mpr ⟨pt_f1_34, List.forall_mem_cons.mpr ⟨pt_f1_37, fun _ h => absurd h List.not_mem_nil⟩⟩⟩⟩⟩⟩
theorem pt_f2_158 : pt_Fp (2, 158, 3, 0, 2, true) := ⟨RX3, TX3, 2, tyX3, pt_C3, by decide, pm_in 93 (by decide +kernel) rfl, rfl, rfl⟩
theorem pt_f2_55 : pt_Fp (2, 55, 3, 1, 0, false) := ⟨RX3, TX3, 2, tyX3, pt_C3, by decide, pm_in 96 (by decide +kernel) rfl, rfl, rfl⟩
theorem pt_f2_9 : pt_Fp (2, 9, 2, 0, 2, true) := ⟨RX2, TX2, 7, tyX2, pt_C2, by decide, pm_in 109 (by decide +kernel) rfl, rfl, rfl⟩
theorem pt_f2_20 : pt_Fp (2, 20, 2, 1, 0, false) := ⟨RX2, TX2, 7, tyX2, pt_C2, by decide, pm_in 110 (by decide +kernel) rfl, rfl, rfl⟩
theorem pt_f2_24 : pt_Fp (2, 24, 2, 2, 0, false) := ⟨RX2, TX2, 7, tyX2, pt_C2, by decide, pm_in 112 (by decide +kernel) rfl, rfl, rfl⟩
theorem pt_f2_151 : pt_Fp (2, 151, 2, 3, 0, false) := ⟨RX2, TX2, 7, tyX2, pt_C2, by decide, pm_in 114 (by decide +kernel) rfl, rfl, rfl⟩
theorem pt_f2_27 : pt_Fp (2, 27, 2, 4, 0, false) := ⟨RX2, TX2, 7, tyX2, pt_C2, by decide, pm_in 115 (by decide +kernel) rfl, rfl, rfl⟩
theorem pt_f2_33 : pt_Fp (2, 33, 2, 5, 0, false) := ⟨RX2, TX2, 7, tyX2, pt_C2, by decide, pm_in 116 (by decide +kernel) rfl, rfl, rfl⟩
theorem pt_f2_75 : pt_Fp (2, 75, 2, 6, 0, false) := ⟨RX2, TX2, 7, tyX2, pt_C2, by decide, pm_in 117 (by decide +kernel) rfl, rfl, rfl⟩
theorem pt_f2_78 : pt_Fp (2, 78, 4, 0, 0, false) := ⟨RX4, TX4, 12, tyX4, pt_C4, by decide, pm_in 213 (by decide +kernel) rfl, rfl, rfl⟩
theorem pt_f2_94 : pt_Fp (2, 94, 4, 1, 2, true) := ⟨RX4, TX4, 12, tyX4, pt_C4, by decide, pm_in 216 (by decide +kernel) rfl, rfl, rfl⟩
theorem pt_f2_100 : pt_Fp (2, 100, 4, 2, 2, true) := ⟨RX4, TX4, 12, tyX4, pt_C4, by decide, pm_in 220 (by decide +kernel) rfl, rfl, rfl⟩
def pt_Fl2 : List (Nat × Nat × Nat × Nat × Nat × Bool) := [(2, 158, 3, 0, 2, true), (2, 55, 3, 1, 0, false), (2, 9, 2, 0, 2, true), (2, 20, 2, 1, 0, false), (2, 24, 2, 2, 0, false), (2, 151, 2, 3, 0, false), (2, 27, 2, 4, 0, false), (2, 33, 2, 5, 0, false), (2, 75, 2, 6, 0, false), (2, 78, 4, 0, 0, false), (2, 94, 4, 1, 2, true), (2, 100, 4, 2, 2, true)]
theorem pt_Fl2_ok : ∀ q ∈ pt_Fl2, pt_Fp q := List.forall_mem_cons.mpr ⟨pt_f2_158, List.forall_mem_cons.mpr ⟨pt_f2_55, List.forall_mem_cons.mpr ⟨pt_f2_9, List.forall_mem_cons.mpr ⟨pt_f2_20, List.forall_mem_cons.mpr ⟨pt_f2_24, List.forall_mem_cons.mpr ⟨pt_f2_151, List.forall_mem_cons.mpr ⟨pt_f2_27, List.forall_mem_cons.mpr ⟨pt_f2_33, List.forall_mem_cons.mpr ⟨pt_f2_75, List.forall_mem_cons.mpr ⟨pt_f2_78, List.forall_mem_cons.mpr ⟨pt_f2_94, List.forall_mem_cons.mpr ⟨pt_f2_100, fun _ h => absurd h List.not_mem_nil⟩⟩⟩⟩⟩⟩⟩⟩⟩⟩⟩⟩
theorem pt_f3_9 : pt_Fp (3, 9, 3, 0, 2, true) := ⟨RX3, TX3, 2, tyX3, pt_C3, by decide, pm_in 92 (by decide +kernel) rfl, rfl, rfl⟩
theorem pt_f3_13 : pt_Fp (3, 13, 3, 1, 0, false) := ⟨RX3, TX3, 2, tyX3, pt_C3, by decide, pm_in 94 (by decide +kernel) rfl, rfl, rfl⟩
def pt_Fl3 : List (Nat × Nat × Nat × Nat × Nat × Bool) := [(3, 9, 3, 0, 2, true), (3, 13, 3, 1, 0, false)]
theorem pt_Fl3_ok : ∀ q ∈ pt_Fl3, pt_Fp q := List.forall_mem_cons.mpr ⟨pt_f3_9, List.forall_mem_cons.mpr ⟨pt_f3_13, fun _ h => absurd h List.not_mem_nil⟩⟩
theorem pt_f4_42 : pt_Fp (4, 42, 4, 0, 0, false) := ⟨RX4, TX4, 12, tyX4, pt_C4, by decide, pm_in 212 (by decide +kernel) rfl, rfl, rfl⟩
theorem pt_f4_9 : pt_Fp (4, 9, 4, 1, 2, true) := ⟨RX4, TX4, 12, tyX4, pt_C4, by decide, pm_in 214 (by decide +kernel) rfl, rfl, rfl⟩
theorem pt_f4_15 : pt_Fp (4, 15, 4, 2, 2, true) := ⟨RX4, TX4, 12, tyX4, pt_C4, by decide, pm_in 218 (by decide +kernel) rfl, rfl, rfl⟩
theorem pt_f4_46 : pt_Fp (4, 46, 4, 3, 0, false) := ⟨RX4, TX4, 12, tyX4, pt_C4, by decide, pm_in 222 (by decide +kernel) rfl, rfl, rfl⟩
theorem pt_f4_18 : pt_Fp (4, 18, 4, 4, 2, true) := ⟨RX4, TX4, 12, tyX4, pt_C4, by decide, pm_in 224 (by decide +kernel) rfl, rfl, rfl⟩
theorem pt_f4_21 : pt_Fp (4, 21, 4, 5, 2, true) := ⟨RX4, TX4, 12, tyX4, pt_C4, by decide, pm_in 226 (by decide +kernel) rfl, rfl, rfl⟩
theorem pt_f4_24 : pt_Fp (4, 24, 4, 6, 2, true) := ⟨RX4, TX4, 12, tyX4, pt_C4, by decide, pm_in 228 (by decide +kernel) rfl, rfl, rfl⟩
theorem pt_f4_49 : pt_Fp (4, 49, 4, 7, 0, false) := ⟨RX4, TX4, 12, tyX4, pt_C4, by decide, pm_in 230 (by decide +kernel) rfl, rfl, rfl⟩
theorem pt_f4_27 : pt_Fp (4, 27, 4, 8, 2, true) := ⟨RX4, TX4, 12, tyX4, pt_C4, by decide, pm_in 233 (by decide +kernel) rfl, rfl, rfl⟩
theorem pt_f4_30 : pt_Fp (4, 30, 4, 9, 2, true) := ⟨RX4, TX4, 12, tyX4, pt_C4, by decide, pm_in 235 (by decide +kernel) rfl, rfl, rfl⟩
theorem pt_f4_33 : pt_Fp (4, 33, 4, 10, 2, true) := ⟨RX4, TX4, 12, tyX4, pt_C4, by decide, pm_in 237 (by decide +kernel) rfl, rfl, rfl⟩
theorem pt_f4_36 : pt_Fp (4, 36, 4, 11, 2, true) := ⟨RX4, TX4, 12, tyX4, pt_C4, by decide, pm_in 239 (by decide +kernel) rfl, rfl, rfl⟩
def pt_Fl4 : List (Nat × Nat × Nat × Nat × Nat × Bool) := [(4, 42, 4, 0, 0, false), (4, 9, 4, 1, 2, true), (4, 15, 4, 2, 2, true), (4, 46, 4, 3, 0, false), (4, 18, 4, 4, 2, true), (4, 21, 4, 5, 2, true), (4, 24, 4, 6, 2, true), (4, 49, 4, 7, 0, false), (4, 27, 4, 8, 2, true), (4, 30, 4, 9, 2, true), (4, 33, 4, 10, 2, true), (4, 36, 4, 11, 2, true)]
theorem pt_Fl4_ok : ∀ q ∈ pt_Fl4, pt_Fp q := List.forall_mem_cons.mpr ⟨pt_f4_42, List.forall_mem_cons.mpr ⟨pt_f4_9, List.forall_mem_cons.mpr ⟨pt_f4_15, List.forall_mem_cons.mpr ⟨pt_f4_46, List.forall_mem_cons.mpr ⟨pt_f4_18, List.forall_mem_cons.mpr ⟨pt_f4_21, List.forall_mem_cons.mpr ⟨pt_f4_24, List.forall_mem_cons.mpr ⟨pt_f4_49, List.forall_mem_cons.mpr ⟨pt_f4_27, List.forall_mem_cons.mpr ⟨pt_f4_30, List.forall_mem_cons.mpr ⟨pt_f4_33, List.forall_mem_cons.mpr ⟨pt_f4_36, fun _ h => absurd h List.not_mem_nil⟩⟩⟩⟩⟩⟩⟩⟩⟩⟩⟩⟩
theorem pt_f5_61 : pt_Fp (5, 61, 3, 1, 0, false) := ⟨RX3, TX3, 2, tyX3, pt_C3, by decide, pm_in 95 (by decide +kernel) rfl, rfl, rfl⟩
theorem pt_f5_68 : pt_Fp (5, 68, 2, 1, 0, false) := ⟨RX2, TX2, 7, tyX2, pt_C2, by decide, pm_in 111 (by decide +kernel) rfl, rfl, rfl⟩
theorem pt_f5_69 : pt_Fp (5, 69, 2, 2, 0, false) := ⟨RX2, TX2, 7, tyX2, pt_C2, by decide, pm_in 113 (by decide +kernel) rfl, rfl, rfl⟩
theorem pt_f5_191 : pt_Fp (5, 191, 0, 0, 2, true) := ⟨RX0, TX0, 12, tyX0, pt_C0, by decide, pm_in 140 (by decide +kernel) rfl, rfl, rfl⟩
theorem pt_f5_185 : pt_Fp (5, 185, 0, 1, 0, false) := ⟨RX0, TX0, 12, tyX0, pt_C0, by decide, pm_in 142 (by decide +kernel) rfl, rfl, rfl⟩
theorem pt_f5_182 : pt_Fp (5, 182, 0, 2, 0, false) := ⟨RX0, TX0, 12, tyX0, pt_C0, by decide, pm_in 144 (by decide +kernel) rfl, rfl, rfl⟩
theorem pt_f5_188 : pt_Fp (5, 188, 0, 3, 0, false) := ⟨RX0, TX0, 12, tyX0, pt_C0, by decide, pm_in 146 (by decide +kernel) rfl, rfl, rfl⟩
theorem pt_f5_72 : pt_Fp (5, 72, 1, 0, 0, false) := ⟨RX1, TX1, 4, tyX1, pt_C1, by decide, pm_in 189 (by decide +kernel) rfl, rfl, rfl⟩
theorem pt_f5_109 : pt_Fp (5, 109, 4, 1, 2, true) := ⟨RX4, TX4, 12, tyX4, pt_C4, by decide, pm_in 217 (by decide +kernel) rfl, rfl, rfl⟩
theorem pt_f5_113 : pt_Fp (5, 113, 4, 2, 2, true) := ⟨RX4, TX4, 12, tyX4, pt_C4, by decide, pm_in 221 (by decide +kernel) rfl, rfl, rfl⟩
theorem pt_f5_75 : pt_Fp (5, 75, 4, 3, 0, false) := ⟨RX4, TX4, 12, tyX4, pt_C4, by decide, pm_in 223 (by decide +kernel) rfl, rfl, rfl⟩
theorem pt_f5_118 : pt_Fp (5, 118, 4, 4, 2, true) := ⟨RX4, TX4, 12, tyX4, pt_C4, by decide, pm_in 225 (by decide +kernel) rfl, rfl, rfl⟩
theorem pt_f5_121 : pt_Fp (5, 121, 4, 5, 2, true) := ⟨RX4, TX4, 12, tyX4, pt_C4, by decide, pm_in 227 (by decide +kernel) rfl, rfl, rfl⟩
theorem pt_f5_124 : pt_Fp (5, 124, 4, 6, 2, true) := ⟨RX4, TX4, 12, tyX4, pt_C4, by decide, pm_in 229 (by decide +kernel) rfl, rfl, rfl⟩
theorem pt_f5_78 : pt_Fp (5, 78, 4, 7, 0, false) := ⟨RX4, TX4, 12, tyX4, pt_C4, by decide, pm_in 232 (by decide +kernel) rfl, rfl, rfl⟩
theorem pt_f5_130 : pt_Fp (5, 130, 4, 8, 2, true) := ⟨RX4, TX4, 12, tyX4, pt_C4, by decide, pm_in 234 (by decide +kernel) rfl, rfl, rfl⟩
theorem pt_f5_133 : pt_Fp (5, 133, 4, 9, 2, true) := ⟨RX4, TX4, 12, tyX4, pt_C4, by decide, pm_in 236 (by decide +kernel) rfl, rfl, rfl⟩
theorem pt_f5_136 : pt_Fp (5, 136, 4, 10, 2, true) := ⟨RX4, TX4, 12, tyX4, pt_C4, by decide, pm_in 238 (by decide +kernel) rfl, rfl, rfl⟩
theorem pt_f5_139 : pt_Fp (5, 139, 4, 11, 2, true) := ⟨RX4, TX4, 12, tyX4, pt_C4, by decide, pm_in 240 (by decide +kernel) rfl, rfl, rfl⟩
theorem pt_f5_12 : pt_Fp (5, 12, 5, 0, 2, true) := ⟨RX5, TX5, 7, tyX5, pt_C5, by decide, pm_in 266 (by decide +kernel) rfl, rfl, rfl⟩
theorem pt_f5_21 : pt_Fp (5, 21, 5, 1, 2, true) := ⟨RX5, TX5, 7, tyX5, pt_C5, by decide, pm_in 267 (by decide +kernel) rfl, rfl, rfl⟩
theorem pt_f5_28 : pt_Fp (5, 28, 5, 2, 2, true) := ⟨RX5, TX5, 7, tyX5, pt_C5, by decide, pm_in 268 (by decide +kernel) rfl, rfl, rfl⟩
theorem pt_f5_35 : pt_Fp (5, 35, 5, 3, 2, true) := ⟨RX5, TX5, 7, tyX5, pt_C5, by decide, pm_in 269 (by decide +kernel) rfl, rfl, rfl⟩
theorem pt_f5_42 : pt_Fp (5, 42, 5, 4, 2, false) := ⟨RX5, TX5, 7, tyX5, pt_C5, by decide, pm_in 270 (by decide +kernel) rfl, rfl, rfl⟩
theorem pt_f5_46 : pt_Fp (5, 46, 5, 5, 2, false) := ⟨RX5, TX5, 7, tyX5, pt_C5, by decide, pm_in 271 (by decide +kernel) rfl, rfl, rfl⟩
theorem pt_f5_49 : pt_Fp (5, 49, 5, 6, 0, false) := ⟨RX5, TX5, 7, tyX5, pt_C5, by decide, pm_in 272 (by decide +kernel) rfl, rfl, rfl⟩
def pt_Fl5 : List (Nat × Nat × Nat × Nat × Nat × Bool) := [(5, 61, 3, 1, 0, false), (5, 68, 2, 1, 0, false), (5, 69, 2, 2, 0, false), (5, 191, 0, 0, 2, true), (5, 185, 0, 1, 0, false), (5, 182, 0, 2, 0, false), (5, 188, 0, 3, 0, false), (5, 72, 1, 0, 0, false), (5, 109, 4, 1, 2, true), (5, 113, 4, 2, 2, true), (5, 75, 4, 3, 0, false), (5, 118, 4, 4, 2, true), (5, 121, 4, 5, 2, true), (5, 124, 4, 6, 2, true), (5, 78, 4, 7, 0, false), (5, 130, 4, 8, 2, true), (5, 133, 4, 9, 2, true), (5, 136, 4, 10, 2, true), (5, 139, 4, 11, 2, true), (5, 12, 5, 0, 2, true), (5, 21, 5, 1, 2, true), (5, 28, 5, 2, 2, true), (5, 35, 5, 3, 2, true), (5, 42, 5, 4, 2, false), (5, 46, 5, 5, 2, false), (5, 49, 5, 6, 0, false)]
theorem pt_Fl5_ok : ∀ q ∈ pt_Fl5, pt_Fp q := List.forall_mem_cons.mpr ⟨pt_f5_61, List.forall_mem_cons.mpr ⟨pt_f5_68, List.forall_mem_cons.mpr ⟨pt_f5_69, List.forall_mem_cons.mpr ⟨pt_f5_191, List.forall_mem_cons.mpr ⟨pt_f5_185, List.forall_mem_cons.mpr ⟨pt_f5_182, List.forall_mem_cons.mpr ⟨pt_f5_188, List.forall_mem_cons.mpr ⟨pt_f5_72, List.forall_mem_cons.mpr ⟨pt_f5_109, List.forall_mem_cons.mpr ⟨pt_f5_113, List.forall_mem_cons.mpr ⟨pt_f5_75, List.forall_mem_cons.mpr ⟨pt_f5_118, List.forall_mem_cons.mpr ⟨pt_f5_121, List.forall_mem_cons.mpr ⟨pt_f5_124, List.forall_mem_cons.mpr ⟨pt_f5_78, List.forall_mem_cons.mpr ⟨pt_f5_130, List.forall_mem_cons.mpr ⟨pt_f5_133, List.forall_mem_cons.mpr ⟨pt_f5_136, List.forall_mem_cons.mpr ⟨pt_f5_139, List.forall_mem_cons.mpr ⟨pt_f5_12, List.forall_mem_cons.mpr ⟨pt_f5_21, List.forall_mem_cons.mpr ⟨pt_f5_28, List.forall_mem_cons.mpr ⟨pt_f5_35, List.forall_mem_cons.mpr ⟨pt_f5_42, List.forall_mem_cons.mpr ⟨pt_f5_46, List.forall_mem_cons.mpr ⟨pt_f5_49, fun _ h => absurd h List.not_mem_nil⟩⟩⟩⟩⟩⟩⟩⟩⟩⟩⟩⟩⟩⟩⟩⟩⟩⟩⟩⟩⟩⟩⟩⟩⟩⟩
theorem pt_f6_1 : pt_Fp (6, 1, 6, 0, 0, false) := ⟨RX6, TX6, 23, tyX6, pt_C6, by decide, pm_in 848 (by decide +kernel) rfl, rfl, rfl⟩
theorem pt_f6_7 : pt_Fp (6, 7, 6, 1, 2, true) := ⟨RX6, TX6, 23, tyX6, pt_C6, by decide, pm_in 849 (by decide +kernel) rfl, rfl, rfl⟩
theorem pt_f6_11 : pt_Fp (6, 11, 6, 2, 0, false) := ⟨RX6, TX6, 23, tyX6, pt_C6, by decide, pm_in 850 (by decide +kernel) rfl, rfl, rfl⟩
theorem pt_f6_18 : pt_Fp (6, 18, 6, 3, 0, false) := ⟨RX6, TX6, 23, tyX6, pt_C6, by decide, pm_in 851 (by decide +kernel) rfl, rfl, rfl⟩
theorem pt_f6_21 : pt_Fp (6, 21, 6, 4, 0, false) := ⟨RX6, TX6, 23, tyX6, pt_C6, by decide, pm_in 852 (by decide +kernel) rfl, rfl, rfl⟩
theorem pt_f6_24 : pt_Fp (6, 24, 6, 5, 0, false) := ⟨RX6, TX6, 23, tyX6, pt_C6, by decide, pm_in 853 (by decide +kernel) rfl, rfl, rfl⟩
theorem pt_f6_27 : pt_Fp (6, 27, 6, 6, 0, false) := ⟨RX6, TX6, 23, tyX6, pt_C6, by decide, pm_in 854 (by decide +kernel) rfl, rfl, rfl⟩
theorem pt_f6_41 : pt_Fp (6, 41, 6, 7, 0, false) := ⟨RX6, TX6, 23, tyX6, pt_C6, by decide, pm_in 855 (by decide +kernel) rfl, rfl, rfl⟩
theorem pt_f6_72 : pt_Fp (6, 72, 6, 8, 0, false) := ⟨RX6, TX6, 23, tyX6, pt_C6, by decide, pm_in 856 (by decide +kernel) rfl, rfl, rfl⟩
theorem pt_f6_75 : pt_Fp (6, 75, 6, 9, 0, false) := ⟨RX6, TX6, 23, tyX6, pt_C6, by decide, pm_in 857 (by decide +kernel) rfl, rfl, rfl⟩
theorem pt_f6_37 : pt_Fp (6, 37, 6, 10, 1, false) := ⟨RX6, TX6, 23, tyX6, pt_C6, by decide, pm_in 858 (by decide +kernel) rfl, rfl, rfl⟩
theorem pt_f6_84 : pt_Fp (6, 84, 6, 11, 2, true) := ⟨RX6, TX6, 23, tyX6, pt_C6, by decide, pm_in 859 (by decide +kernel) rfl, rfl, rfl⟩
theorem pt_f6_87 : pt_Fp (6, 87, 6, 12, 2, true) := ⟨RX6, TX6, 23, tyX6, pt_C6, by decide, pm_in 860 (by decide +kernel) rfl, rfl, rfl⟩
theorem pt_f6_90 : pt_Fp (6, 90, 6, 13, 2, true) := ⟨RX6, TX6, 23, tyX6, pt_C6, by decide, pm_in 861 (by decide +kernel) rfl, rfl, rfl⟩
theorem pt_f6_172 : pt_Fp (6, 172, 6, 14, 0, false) := ⟨RX6, TX6, 23, tyX6, pt_C6, by decide, pm_in 862 (by decide +kernel) rfl, rfl, rfl⟩
theorem pt_f6_93 : pt_Fp (6, 93, 6, 15, 2, true) := ⟨RX6, TX6, 23, tyX6, pt_C6, by decide, pm_in 863 (by decide +kernel) rfl, rfl, rfl⟩
theorem pt_f6_97 : pt_Fp (6, 97, 6, 16, 2, true) := ⟨RX6, TX6, 23, tyX6, pt_C6, by decide, pm_in 864 (by decide +kernel) rfl, rfl, rfl⟩
theorem pt_f6_100 : pt_Fp (6, 100, 6, 17, 2, true) := ⟨RX6, TX6, 23, tyX6, pt_C6, by decide, pm_in 865 (by decide +kernel) rfl, rfl, rfl⟩
theorem pt_f6_230 : pt_Fp (6, 230, 6, 18, 0, false) := ⟨RX6, TX6, 23, tyX6, pt_C6, by decide, pm_in 866 (by decide +kernel) rfl, rfl, rfl⟩
theorem pt_f6_242 : pt_Fp (6, 242, 6, 19, 0, false) := ⟨RX6, TX6, 23, tyX6, pt_C6, by decide, pm_in 867 (by decide +kernel) rfl, rfl, rfl⟩
theorem pt_f6_245 : pt_Fp (6, 245, 6, 20, 0, false) := ⟨RX6, TX6, 23, tyX6, pt_C6, by decide, pm_in 868 (by decide +kernel) rfl, rfl, rfl⟩
theorem pt_f6_236 : pt_Fp (6, 236, 6, 21, 1, false) := ⟨RX6, TX6, 23, tyX6, pt_C6, by decide, pm_in 869 (by decide +kernel) rfl, rfl, rfl⟩
theorem pt_f6_239 : pt_Fp (6, 239, 6, 22, 1, false) := ⟨RX6, TX6, 23, tyX6, pt_C6, by decide, pm_in 870 (by decide +kernel) rfl, rfl, rfl⟩
def pt_Fl6 : List (Nat × Nat × Nat × Nat × Nat × Bool) := [(6, 1, 6, 0, 0, false), (6, 7, 6, 1, 2, true), (6, 11, 6, 2, 0, false), (6, 18, 6, 3, 0, false), (6, 21, 6, 4, 0, false), (6, 24, 6, 5, 0, false), (6, 27, 6, 6, 0, false), (6, 41, 6, 7, 0, false), (6, 72, 6, 8, 0, false), (6, 75, 6, 9, 0, false), (6, 37, 6, 10, 1, false), (6, 84, 6, 11, 2, true), (6, 87, 6, 12, 2, true), (6, 90, 6, 13, 2, true), (6, 172, 6, 14, 0, false), (6, 93, 6, 15, 2, true), (6, 97, 6, 16, 2, true), (6, 100, 6, 17, 2, true), (6, 230, 6, 18, 0, false), (6, 242, 6, 19, 0, false), (6, 245, 6, 20, 0, false), (6, 236, 6, 21, 1, false), (6, 239, 6, 22, 1, false)]
theorem pt_Fl6_ok : ∀ q ∈ pt_Fl6, pt_Fp q := List.forall_mem_cons.mpr ⟨pt_f6_1, List.forall_mem_cons.mpr ⟨pt_f6_7, List.forall_mem_cons.mpr ⟨pt_f6_11, List.forall_mem_cons.mpr ⟨pt_f6_18, List.forall_mem_cons.mpr ⟨pt_f6_21, List.forall_mem_cons.mpr ⟨pt_f6_24, List.forall_mem_cons.mpr ⟨pt_f6_27, List.forall_mem_cons.mpr ⟨pt_f6_41, List.forall_mem_cons.mpr ⟨pt_f6_72, List.forall_mem_cons.mpr ⟨pt_f6_75, List.forall_mem_cons.mpr ⟨pt_f6_37, List.forall_mem_cons.mpr ⟨pt_f6_84, List.forall_mem_cons.mpr ⟨pt_f6_87, List.forall_mem_cons.mpr ⟨pt_f6_90, List.forall_mem_cons.mpr ⟨pt_f6_172, List.forall_mem_cons.mpr ⟨pt_f6_93, List.forall_mem_cons.mpr ⟨pt_f6_97, List.forall_mem_cons.mpr ⟨pt_f6_100, List.forall_mem_cons.mpr ⟨pt_f6_230, List.forall_mem_cons.mpr ⟨pt_f6_242, List.forall_mem_cons.mpr ⟨pt_f6_245, List.forall_mem_cons.mpr ⟨pt_f6_236, List.forall_mem_cons.mpr ⟨pt_f6_239, fun _ h => absurd h List.not_mem_nil⟩⟩⟩⟩⟩⟩⟩⟩⟩⟩⟩⟩⟩⟩⟩⟩⟩⟩⟩⟩⟩⟩⟩
def pt_Fl : List (Nat × Nat × Nat × Nat × Nat × Bool) := pt_Fl0 ++ (pt_Fl1 ++ (pt_Fl2 ++ (pt_Fl3 ++ (pt_Fl4 ++ (pt_Fl5 ++ pt_Fl6)))))
theorem pt_Fl_ok : ∀ q ∈ pt_Fl, pt_Fp q := List.forall_mem_append.mpr ⟨pt_Fl0_ok, List.forall_mem_append.mpr ⟨pt_Fl1_ok, List.forall_mem_append.mpr ⟨pt_Fl2_ok, List.forall_mem_append.mpr ⟨pt_Fl3_ok, List.forall_mem_append.mpr ⟨pt_Fl4_ok, List.forall_mem_append.mpr ⟨pt_Fl5_ok, pt_Fl6_ok⟩⟩⟩⟩⟩⟩
def pt_F (o ix : Nat) : Option (Nat × Nat × Nat × Bool) := (pt_Fl.find? (fun q => q.1 == o && q.2.1 == ix)).map (fun q => q.2.2)
theorem pt_F_ok {o ix : Nat} {q : Nat × Nat × Nat × Bool} (h : pt_F o ix = some q) : pt_Fp (o, ix, q) := by
  unfold pt_F at h
  cases hf : pt_Fl.find? (fun q => q.1 == o && q.2.1 == ix) with
  | none => rw [hf] at h; cases h
  | some z =>
    rw [hf] at h
    cases h
    have h1 := List.find?_some hf
    have h2 := pt_Fl_ok z (List.mem_of_find?_eq_some hf)
    obtain ⟨a, b, c⟩ := z
    simp only [Bool.and_eq_true, beq_iff_eq] at h1
    obtain ⟨rfl, rfl⟩ := h1
    exact h2
theorem pt_F_0_9 : pt_F 0 9 = some (0, 0, 2, true) := rfl
theorem pt_F_0_15 : pt_F 0 15 = some (0, 4, 2, true) := rfl
theorem pt_F_0_19 : pt_F 0 19 = some (0, 5, 2, true) := rfl
theorem pt_F_0_22 : pt_F 0 22 = some (0, 6, 2, true) := rfl
theorem pt_F_0_25 : pt_F 0 25 = some (0, 7, 2, true) := rfl
theorem pt_F_0_42 : pt_F 0 42 = some (0, 9, 0, false) := rfl
theorem pt_F_0_49 : pt_F 0 49 = some (0, 10, 1, false) := rfl
theorem pt_F_0_53 : pt_F 0 53 = some (0, 8, 0, false) := rfl
theorem pt_F_0_56 : pt_F 0 56 = some (4, 7, 0, false) := rfl
theorem pt_F_0_74 : pt_F 0 74 = some (0, 11, 1, false) := rfl
theorem pt_F_0_77 : pt_F 0 77 = some (0, 1, 0, false) := rfl
theorem pt_F_0_83 : pt_F 0 83 = some (0, 2, 0, false) := rfl
theorem pt_F_0_98 : pt_F 0 98 = some (0, 3, 0, false) := rfl
theorem pt_F_1_9 : pt_F 1 9 = some (1, 1, 2, true) := rfl
theorem pt_F_1_13 : pt_F 1 13 = some (1, 2, 2, true) := rfl
theorem pt_F_1_16 : pt_F 1 16 = some (1, 3, 2, true) := rfl
theorem pt_F_1_19 : pt_F 1 19 = some (1, 0, 0, false) := rfl
theorem pt_F_1_34 : pt_F 1 34 = some (4, 1, 2, true) := rfl
theorem pt_F_1_37 : pt_F 1 37 = some (4, 2, 2, true) := rfl
theorem pt_F_2_9 : pt_F 2 9 = some (2, 0, 2, true) := rfl
theorem pt_F_2_20 : pt_F 2 20 = some (2, 1, 0, false) := rfl
theorem pt_F_2_24 : pt_F 2 24 = some (2, 2, 0, false) := rfl
theorem pt_F_2_27 : pt_F 2 27 = some (2, 4, 0, false) := rfl
theorem pt_F_2_33 : pt_F 2 33 = some (2, 5, 0, false) := rfl
theorem pt_F_2_55 : pt_F 2 55 = some (3, 1, 0, false) := rfl
theorem pt_F_2_75 : pt_F 2 75 = some (2, 6, 0, false) := rfl
theorem pt_F_2_78 : pt_F 2 78 = some (4, 0, 0, false) := rfl
theorem pt_F_2_94 : pt_F 2 94 = some (4, 1, 2, true) := rfl
theorem pt_F_2_100 : pt_F 2 100 = some (4, 2, 2, true) := rfl
theorem pt_F_2_151 : pt_F 2 151 = some (2, 3, 0, false) := rfl
theorem pt_F_2_158 : pt_F 2 158 = some (3, 0, 2, true) := rfl
theorem pt_F_3_9 : pt_F 3 9 = some (3, 0, 2, true) := rfl
theorem pt_F_3_13 : pt_F 3 13 = some (3, 1, 0, false) := rfl
theorem pt_F_4_9 : pt_F 4 9 = some (4, 1, 2, true) := rfl
theorem pt_F_4_15 : pt_F 4 15 = some (4, 2, 2, true) := rfl
theorem pt_F_4_18 : pt_F 4 18 = some (4, 4, 2, true) := rfl
theorem pt_F_4_21 : pt_F 4 21 = some (4, 5, 2, true) := rfl
theorem pt_F_4_24 : pt_F 4 24 = some (4, 6, 2, true) := rfl
theorem pt_F_4_27 : pt_F 4 27 = some (4, 8, 2, true) := rfl
theorem pt_F_4_30 : pt_F 4 30 = some (4, 9, 2, true) := rfl
theorem pt_F_4_33 : pt_F 4 33 = some (4, 10, 2, true) := rfl
theorem pt_F_4_36 : pt_F 4 36 = some (4, 11, 2, true) := rfl
theorem pt_F_4_42 : pt_F 4 42 = some (4, 0, 0, false) := rfl
theorem pt_F_4_46 : pt_F 4 46 = some (4, 3, 0, false) := rfl
theorem pt_F_4_49 : pt_F 4 49 = some (4, 7, 0, false) := rfl
theorem pt_F_5_12 : pt_F 5 12 = some (5, 0, 2, true) := rfl
theorem pt_F_5_21 : pt_F 5 21 = some (5, 1, 2, true) := rfl
theorem pt_F_5_28 : pt_F 5 28 = some (5, 2, 2, true) := rfl
theorem pt_F_5_35 : pt_F 5 35 = some (5, 3, 2, true) := rfl
theorem pt_F_5_42 : pt_F 5 42 = some (5, 4, 2, false) := rfl
theorem pt_F_5_46 : pt_F 5 46 = some (5, 5, 2, false) := rfl
theorem pt_F_5_49 : pt_F 5 49 = some (5, 6, 0, false) := rfl
theorem pt_F_5_61 : pt_F 5 61 = some (3, 1, 0, false) := rfl
theorem pt_F_5_68 : pt_F 5 68 = some (2, 1, 0, false) := rfl
theorem pt_F_5_69 : pt_F 5 69 = some (2, 2, 0, false) := rfl
theorem pt_F_5_72 : pt_F 5 72 = some (1, 0, 0, false) := rfl
theorem pt_F_5_75 : pt_F 5 75 = some (4, 3, 0, false) := rfl
theorem pt_F_5_78 : pt_F 5 78 = some (4, 7, 0, false) := rfl
theorem pt_F_5_109 : pt_F 5 109 = some (4, 1, 2, true) := rfl
theorem pt_F_5_113 : pt_F 5 113 = some (4, 2, 2, true) := rfl
theorem pt_F_5_118 : pt_F 5 118 = some (4, 4, 2, true) := rfl
theorem pt_F_5_121 : pt_F 5 121 = some (4, 5, 2, true) := rfl
theorem pt_F_5_124 : pt_F 5 124 = some (4, 6, 2, true) := rfl
theorem pt_F_5_130 : pt_F 5 130 = some (4, 8, 2, true) := rfl
theorem pt_F_5_133 : pt_F 5 133 = some (4, 9, 2, true) := rfl
theorem pt_F_5_136 : pt_F 5 136 = some (4, 10, 2, true) := rfl
theorem pt_F_5_139 : pt_F 5 139 = some (4, 11, 2, true) := rfl
theorem pt_F_5_182 : pt_F 5 182 = some (0, 2, 0, false) := rfl
theorem pt_F_5_185 : pt_F 5 185 = some (0, 1, 0, false) := rfl
theorem pt_F_5_188 : pt_F 5 188 = some (0, 3, 0, false) := rfl
theorem pt_F_5_191 : pt_F 5 191 = some (0, 0, 2, true) := rfl
theorem pt_F_6_1 : pt_F 6 1 = some (6, 0, 0, false) := rfl
theorem pt_F_6_7 : pt_F 6 7 = some (6, 1, 2, true) := rfl
theorem pt_F_6_11 : pt_F 6 11 = some (6, 2, 0, false) := rfl
theorem pt_F_6_18 : pt_F 6 18 = some (6, 3, 0, false) := rfl
theorem pt_F_6_21 : pt_F 6 21 = some (6, 4, 0, false) := rfl
theorem pt_F_6_24 : pt_F 6 24 = some (6, 5, 0, false) := rfl
theorem pt_F_6_27 : pt_F 6 27 = some (6, 6, 0, false) := rfl
theorem pt_F_6_37 : pt_F 6 37 = some (6, 10, 1, false) := rfl
theorem pt_F_6_41 : pt_F 6 41 = some (6, 7, 0, false) := rfl
theorem pt_F_6_72 : pt_F 6 72 = some (6, 8, 0, false) := rfl
theorem pt_F_6_75 : pt_F 6 75 = some (6, 9, 0, false) := rfl
theorem pt_F_6_84 : pt_F 6 84 = some (6, 11, 2, true) := rfl
theorem pt_F_6_87 : pt_F 6 87 = some (6, 12, 2, true) := rfl
theorem pt_F_6_90 : pt_F 6 90 = some (6, 13, 2, true) := rfl
theorem pt_F_6_93 : pt_F 6 93 = some (6, 15, 2, true) := rfl
theorem pt_F_6_97 : pt_F 6 97 = some (6, 16, 2, true) := rfl
theorem pt_F_6_100 : pt_F 6 100 = some (6, 17, 2, true) := rfl
theorem pt_F_6_172 : pt_F 6 172 = some (6, 14, 0, false) := rfl
theorem pt_F_6_230 : pt_F 6 230 = some (6, 18, 0, false) := rfl
theorem pt_F_6_236 : pt_F 6 236 = some (6, 21, 1, false) := rfl
theorem pt_F_6_239 : pt_F 6 239 = some (6, 22, 1, false) := rfl
theorem pt_F_6_242 : pt_F 6 242 = some (6, 19, 0, false) := rfl
theorem pt_F_6_245 : pt_F 6 245 = some (6, 20, 0, false) := rfl
def pt_Kp (q : Nat × Nat × Value) : Prop := match q.2.2 with
  | .int v => Cond.constant (pt_cn q.1) q.2.1 v ∈ pm_tb
  | .long v => Cond.constantLong (pt_cn q.1) q.2.1 v ∈ pm_tb
  | _ => False
theorem pt_k2_70 : pt_Kp (2, 70, .int (99999)) := pm_in 389 (by decide +kernel) rfl
theorem pt_k4_65 : pt_Kp (4, 65, .int (99999)) := pm_in 450 (by decide +kernel) rfl
theorem pt_k5_245 : pt_Kp (5, 245, .int (99999)) := pm_in 477 (by decide +kernel) rfl
theorem pt_k5_244 : pt_Kp (5, 244, .int (-99999)) := pm_in 558 (by decide +kernel) rfl
theorem pt_k5_194 : pt_Kp (5, 194, .int (-1000000000)) := pm_in 559 (by decide +kernel) rfl
theorem pt_k5_255 : pt_Kp (5, 255, .int (99900)) := pm_in 813 (by decide +kernel) rfl
theorem pt_k6_117 : pt_Kp (6, 117, .int (99999)) := pm_in 964 (by decide +kernel) rfl
theorem pt_k6_266 : pt_Kp (6, 266, .int (-1000000000)) := pm_in 1147 (by decide +kernel) rfl
theorem pt_k6_283 : pt_Kp (6, 283, .int (-99999)) := pm_in 1195 (by decide +kernel) rfl
theorem pt_k4_98 : pt_Kp (4, 98, .long (360)) := pm_in 692 (by decide +kernel) rfl
theorem pt_k4_82 : pt_Kp (4, 82, .long (-1000000000)) := pm_in 697 (by decide +kernel) rfl
theorem pt_k0_90 : pt_Kp (0, 90, .long (1000)) := pm_in 756 (by decide +kernel) rfl
theorem pt_k6_48 : pt_Kp (6, 48, .long (27)) := pm_in 936 (by decide +kernel) rfl
theorem pt_k6_50 : pt_Kp (6, 50, .long (96)) := pm_in 937 (by decide +kernel) rfl
theorem pt_k6_52 : pt_Kp (6, 52, .long (19683)) := pm_in 952 (by decide +kernel) rfl
theorem pt_k6_121 : pt_Kp (6, 121, .long (18)) := pm_in 973 (by decide +kernel) rfl
theorem pt_k6_58 : pt_Kp (6, 58, .long (729)) := pm_in 988 (by decide +kernel) rfl
theorem pt_k6_215 : pt_Kp (6, 215, .long (360)) := pm_in 1097 (by decide +kernel) rfl
theorem pt_k6_251 : pt_Kp (6, 251, .long (1000)) := pm_in 1137 (by decide +kernel) rfl
theorem pt_k6_253 : pt_Kp (6, 253, .long (90)) := pm_in 1138 (by decide +kernel) rfl
def pt_Kl : List (Nat × Nat × Value) := [(2, 70, .int (99999)), (4, 65, .int (99999)), (5, 245, .int (99999)), (5, 244, .int (-99999)), (5, 194, .int (-1000000000)), (5, 255, .int (99900)), (6, 117, .int (99999)), (6, 266, .int (-1000000000)), (6, 283, .int (-99999)), (4, 98, .long (360)), (4, 82, .long (-1000000000)), (0, 90, .long (1000)), (6, 48, .long (27)), (6, 50, .long (96)), (6, 52, .long (19683)), (6, 121, .long (18)), (6, 58, .long (729)), (6, 215, .long (360)), (6, 251, .long (1000)), (6, 253, .long (90))]
theorem pt_Kl_ok : ∀ q ∈ pt_Kl, pt_Kp q := List.forall_mem_cons.mpr ⟨pt_k2_70, List.forall_mem_cons.mpr ⟨pt_k4_65, List.forall_mem_cons.mpr ⟨pt_k5_245, List.forall_mem_cons.mpr ⟨pt_k5_244, List.forall_mem_cons.mpr ⟨pt_k5_194, List.forall_mem_cons.mpr ⟨pt_k5_255, List.forall_mem_cons.mpr ⟨pt_k6_117, List.forall_mem_cons.mpr ⟨pt_k6_266, List.forall_mem_cons.mpr ⟨pt_k6_283, List.forall_mem_cons.mpr ⟨pt_k4_98, List.forall_mem_cons.mpr ⟨pt_k4_82, List.forall_mem_cons.mpr ⟨pt_k0_90, List.forall_mem_cons.mpr ⟨pt_k6_48, List.forall_mem_cons.mpr ⟨pt_k6_50, List.forall_mem_cons.mpr ⟨pt_k6_52, List.forall_mem_cons.mpr ⟨pt_k6_121, List.forall_mem_cons.mpr ⟨pt_k6_58, List.forall_mem_cons.mpr ⟨pt_k6_215, List.forall_mem_cons.mpr ⟨pt_k6_251, List.forall_mem_cons.mpr ⟨pt_k6_253, fun _ h => absurd h List.not_mem_nil⟩⟩⟩⟩⟩⟩⟩⟩⟩⟩⟩⟩⟩⟩⟩⟩⟩⟩⟩⟩
def pt_sx : List (Nat × String) := [(64, "shares"), (85, "quarter"), (90, "loss"), (92, "profit"), (98, "price"), (103, "issue"), (108, "buy"), (110, "split"), (112, "option"), (117, "bond"), (119, "earn")]
def pt_sn : List Nat := [6, 7, 4, 6, 5, 5, 3, 5, 6, 4, 4]
def pt_sb : List (List Int32) := [[115, 104, 97, 114, 101, 115], [113, 117, 97, 114, 116, 101, 114], [108, 111, 115, 115], [112, 114, 111, 102, 105, 116], [112, 114, 105, 99, 101], [105, 115, 115, 117, 101], [98, 117, 121], [115, 112, 108, 105, 116], [111, 112, 116, 105, 111, 110], [98, 111, 110, 100], [101, 97, 114, 110]]
def pt_K (o ix : Nat) : Option Value := match pt_Kl.find? (fun q => q.1 == o && q.2.1 == ix) with
  | some q => some q.2.2
  | none => if o = 2 then (pt_sx.findIdx? (fun q => q.1 == ix)).map (fun j => .ref (1000 + j)) else none
theorem pt_K_ok {o ix : Nat} {v : Value} (h : pt_K o ix = some v) : pt_Kp (o, ix, v) ∨ (o = 2 ∧ ∃ j, j < pt_sx.length ∧ (pt_sx.getD j (0, "")).1 = ix ∧ v = .ref (1000 + j)) := by
  unfold pt_K at h
  split at h
  · rename_i z hf
    cases h
    have h1 := List.find?_some hf
    have h2 := pt_Kl_ok z (List.mem_of_find?_eq_some hf)
    obtain ⟨a, b, c⟩ := z
    simp only [Bool.and_eq_true, beq_iff_eq] at h1
    obtain ⟨rfl, rfl⟩ := h1
    exact Or.inl h2
  · split at h
    · rename_i ho
      cases hj : pt_sx.findIdx? (fun q => q.1 == ix) with
      | none => rw [hj] at h; cases h
      | some j =>
        rw [hj] at h
        cases h
        obtain ⟨h1, h2, -⟩ := List.findIdx?_eq_some_iff_getElem.mp hj
        refine Or.inr ⟨ho, j, h1, ?_, rfl⟩
        rw [List.getD_eq_getElem?_getD, List.getElem?_eq_getElem h1]
        exact beq_iff_eq.mp h2
    · cases h
theorem pt_K_0_90 : pt_K 0 90 = some (.long (1000)) := rfl
theorem pt_K_2_70 : pt_K 2 70 = some (.int (99999)) := rfl
theorem pt_K_4_65 : pt_K 4 65 = some (.int (99999)) := rfl
theorem pt_K_4_82 : pt_K 4 82 = some (.long (-1000000000)) := rfl
theorem pt_K_4_98 : pt_K 4 98 = some (.long (360)) := rfl
theorem pt_K_5_194 : pt_K 5 194 = some (.int (-1000000000)) := rfl
theorem pt_K_5_244 : pt_K 5 244 = some (.int (-99999)) := rfl
theorem pt_K_5_245 : pt_K 5 245 = some (.int (99999)) := rfl
theorem pt_K_5_255 : pt_K 5 255 = some (.int (99900)) := rfl
theorem pt_K_6_48 : pt_K 6 48 = some (.long (27)) := rfl
theorem pt_K_6_50 : pt_K 6 50 = some (.long (96)) := rfl
theorem pt_K_6_52 : pt_K 6 52 = some (.long (19683)) := rfl
theorem pt_K_6_58 : pt_K 6 58 = some (.long (729)) := rfl
theorem pt_K_6_117 : pt_K 6 117 = some (.int (99999)) := rfl
theorem pt_K_6_121 : pt_K 6 121 = some (.long (18)) := rfl
theorem pt_K_6_215 : pt_K 6 215 = some (.long (360)) := rfl
theorem pt_K_6_251 : pt_K 6 251 = some (.long (1000)) := rfl
theorem pt_K_6_253 : pt_K 6 253 = some (.long (90)) := rfl
theorem pt_K_6_266 : pt_K 6 266 = some (.int (-1000000000)) := rfl
theorem pt_K_6_283 : pt_K 6 283 = some (.int (-99999)) := rfl
theorem pt_K_2_64 : pt_K 2 64 = some (.ref 1000) := rfl
theorem pt_K_2_85 : pt_K 2 85 = some (.ref 1001) := rfl
theorem pt_K_2_90 : pt_K 2 90 = some (.ref 1002) := rfl
theorem pt_K_2_92 : pt_K 2 92 = some (.ref 1003) := rfl
theorem pt_K_2_98 : pt_K 2 98 = some (.ref 1004) := rfl
theorem pt_K_2_103 : pt_K 2 103 = some (.ref 1005) := rfl
theorem pt_K_2_108 : pt_K 2 108 = some (.ref 1006) := rfl
theorem pt_K_2_110 : pt_K 2 110 = some (.ref 1007) := rfl
theorem pt_K_2_112 : pt_K 2 112 = some (.ref 1008) := rfl
theorem pt_K_2_117 : pt_K 2 117 = some (.ref 1009) := rfl
theorem pt_K_2_119 : pt_K 2 119 = some (.ref 1010) := rfl
def pt_Nl : List (Nat × Nat × Nat × Nat) := [(2, 141, 2, 58), (2, 144, 2, 59)]
def pt_Mp (q : Nat × Nat × Nat × Nat) : Prop := match q.2.2.1 with
  | 0 => Cond.methodLink (pt_cn q.1) q.2.1 (pt_y q.2.2.2) ∈ pm_tb ∧ Cond.instanceMethod (pt_y q.2.2.2) ∈ pm_tb ∧ Cond.selects (pt_y q.2.2.2).cls (pt_y q.2.2.2) (pt_y q.2.2.2) ∈ pm_tb ∧ pt_Yp q.2.2.2 ∧ ∃ (C : String) (T : u_T) (N : Nat), vwCl[pt_o q.2.2.2]? = some (C, T, N) ∧ C = (pt_y q.2.2.2).cls
  | 1 => Cond.methodLink (pt_cn q.1) q.2.1 (pt_y q.2.2.2) ∈ pm_tb ∧ Cond.static (pt_y q.2.2.2) ∈ pm_tb ∧ pt_Yp q.2.2.2
  | 2 => Cond.static (pt_y q.2.2.2) ∈ pm_tb ∧ pt_Yp q.2.2.2 ∧ q ∈ pt_Nl
  | 3 => q = (2, 154, 3, 900)
  | _ => q = (2, 162, 4, 901)
theorem pt_m0_28 : pt_Mp (0, 28, 0, 1) := ⟨pm_in 727 (by decide +kernel) rfl, pm_in 728 (by decide +kernel) rfl, pm_in 729 (by decide +kernel) rfl, pt_Y1, RX0, TX0, 12, rfl, rfl⟩
theorem pt_m0_46 : pt_Mp (0, 46, 0, 46) := ⟨pm_in 731 (by decide +kernel) rfl, pm_in 669 (by decide +kernel) rfl, pm_in 670 (by decide +kernel) rfl, pt_Y46, RX4, TX4, 12, rfl, rfl⟩
theorem pt_m0_59 : pt_Mp (0, 59, 0, 52) := ⟨pm_in 732 (by decide +kernel) rfl, pm_in 703 (by decide +kernel) rfl, pm_in 704 (by decide +kernel) rfl, pt_Y52, RX4, TX4, 12, rfl, rfl⟩
theorem pt_m0_63 : pt_Mp (0, 63, 0, 48) := ⟨pm_in 733 (by decide +kernel) rfl, pm_in 685 (by decide +kernel) rfl, pm_in 686 (by decide +kernel) rfl, pt_Y48, RX4, TX4, 12, rfl, rfl⟩
theorem pt_m0_66 : pt_Mp (0, 66, 0, 50) := ⟨pm_in 734 (by decide +kernel) rfl, pm_in 694 (by decide +kernel) rfl, pm_in 695 (by decide +kernel) rfl, pt_Y50, RX4, TX4, 12, rfl, rfl⟩
theorem pt_m0_70 : pt_Mp (0, 70, 0, 2) := ⟨pm_in 735 (by decide +kernel) rfl, pm_in 737 (by decide +kernel) rfl, pm_in 19 (by decide +kernel) rfl, pt_Y2, RX0, TX0, 12, rfl, rfl⟩
theorem pt_m0_101 : pt_Mp (0, 101, 0, 3) := ⟨pm_in 739 (by decide +kernel) rfl, pm_in 741 (by decide +kernel) rfl, pm_in 20 (by decide +kernel) rfl, pt_Y3, RX0, TX0, 12, rfl, rfl⟩
theorem pt_m0_32 : pt_Mp (0, 32, 0, 51) := ⟨pm_in 743 (by decide +kernel) rfl, pm_in 699 (by decide +kernel) rfl, pm_in 700 (by decide +kernel) rfl, pt_Y51, RX4, TX4, 12, rfl, rfl⟩
theorem pt_m0_38 : pt_Mp (0, 38, 0, 4) := ⟨pm_in 744 (by decide +kernel) rfl, pm_in 745 (by decide +kernel) rfl, pm_in 746 (by decide +kernel) rfl, pt_Y4, RX0, TX0, 12, rfl, rfl⟩
theorem pt_m0_80 : pt_Mp (0, 80, 0, 5) := ⟨pm_in 748 (by decide +kernel) rfl, pm_in 750 (by decide +kernel) rfl, pm_in 21 (by decide +kernel) rfl, pt_Y5, RX0, TX0, 12, rfl, rfl⟩
theorem pt_m0_92 : pt_Mp (0, 92, 1, 167) := ⟨pm_in 757 (by decide +kernel) rfl, pm_in 758 (by decide +kernel) rfl, pt_Y167⟩
theorem pt_m0_86 : pt_Mp (0, 86, 0, 6) := ⟨pm_in 764 (by decide +kernel) rfl, pm_in 753 (by decide +kernel) rfl, pm_in 754 (by decide +kernel) rfl, pt_Y6, RX0, TX0, 12, rfl, rfl⟩
def pt_Ml0 : List (Nat × Nat × Nat × Nat) := [(0, 28, 0, 1), (0, 46, 0, 46), (0, 59, 0, 52), (0, 63, 0, 48), (0, 66, 0, 50), (0, 70, 0, 2), (0, 101, 0, 3), (0, 32, 0, 51), (0, 38, 0, 4), (0, 80, 0, 5), (0, 92, 1, 167), (0, 86, 0, 6)]
theorem pt_Ml0_ok : ∀ q ∈ pt_Ml0, pt_Mp q := List.forall_mem_cons.mpr ⟨pt_m0_28, List.forall_mem_cons.mpr ⟨pt_m0_46, List.forall_mem_cons.mpr ⟨pt_m0_59, List.forall_mem_cons.mpr ⟨pt_m0_63, List.forall_mem_cons.mpr ⟨pt_m0_66, List.forall_mem_cons.mpr ⟨pt_m0_70, List.forall_mem_cons.mpr ⟨pt_m0_101, List.forall_mem_cons.mpr ⟨pt_m0_32, List.forall_mem_cons.mpr ⟨pt_m0_38, List.forall_mem_cons.mpr ⟨pt_m0_80, List.forall_mem_cons.mpr ⟨pt_m0_92, List.forall_mem_cons.mpr ⟨pt_m0_86, fun _ h => absurd h List.not_mem_nil⟩⟩⟩⟩⟩⟩⟩⟩⟩⟩⟩⟩
theorem pt_m1_23 : pt_Mp (1, 23, 0, 10) := ⟨pm_in 539 (by decide +kernel) rfl, pm_in 541 (by decide +kernel) rfl, pm_in 14 (by decide +kernel) rfl, pt_Y10, RX1, TX1, 4, rfl, rfl⟩
theorem pt_m1_26 : pt_Mp (1, 26, 0, 44) := ⟨pm_in 575 (by decide +kernel) rfl, pm_in 576 (by decide +kernel) rfl, pm_in 577 (by decide +kernel) rfl, pt_Y44, RX4, TX4, 12, rfl, rfl⟩
theorem pt_m1_31 : pt_Mp (1, 31, 0, 45) := ⟨pm_in 579 (by decide +kernel) rfl, pm_in 580 (by decide +kernel) rfl, pm_in 581 (by decide +kernel) rfl, pt_Y45, RX4, TX4, 12, rfl, rfl⟩
def pt_Ml1 : List (Nat × Nat × Nat × Nat) := [(1, 23, 0, 10), (1, 26, 0, 44), (1, 31, 0, 45)]
theorem pt_Ml1_ok : ∀ q ∈ pt_Ml1, pt_Mp q := List.forall_mem_cons.mpr ⟨pt_m1_23, List.forall_mem_cons.mpr ⟨pt_m1_26, List.forall_mem_cons.mpr ⟨pt_m1_31, fun _ h => absurd h List.not_mem_nil⟩⟩⟩
theorem pt_m2_15 : pt_Mp (2, 15, 0, 29) := ⟨pm_in 312 (by decide +kernel) rfl, pm_in 209 (by decide +kernel) rfl, pm_in 210 (by decide +kernel) rfl, pt_Y29, RX4, TX4, 12, rfl, rfl⟩
theorem pt_m2_30 : pt_Mp (2, 30, 0, 13) := ⟨pm_in 313 (by decide +kernel) rfl, pm_in 315 (by decide +kernel) rfl, pm_in 0 (by decide +kernel) rfl, pt_Y13, RX2, TX2, 7, rfl, rfl⟩
theorem pt_m2_166 : pt_Mp (2, 166, 1, 165) := ⟨pm_in 317 (by decide +kernel) rfl, pm_in 318 (by decide +kernel) rfl, pt_Y165⟩
theorem pt_m2_172 : pt_Mp (2, 172, 0, 14) := ⟨pm_in 320 (by decide +kernel) rfl, pm_in 322 (by decide +kernel) rfl, pm_in 1 (by decide +kernel) rfl, pt_Y14, RX2, TX2, 7, rfl, rfl⟩
theorem pt_m2_36 : pt_Mp (2, 36, 0, 15) := ⟨pm_in 324 (by decide +kernel) rfl, pm_in 326 (by decide +kernel) rfl, pm_in 2 (by decide +kernel) rfl, pt_Y15, RX2, TX2, 7, rfl, rfl⟩
theorem pt_m2_60 : pt_Mp (2, 60, 0, 16) := ⟨pm_in 328 (by decide +kernel) rfl, pm_in 330 (by decide +kernel) rfl, pm_in 3 (by decide +kernel) rfl, pt_Y16, RX2, TX2, 7, rfl, rfl⟩
theorem pt_m2_40 : pt_Mp (2, 40, 0, 17) := ⟨pm_in 332 (by decide +kernel) rfl, pm_in 334 (by decide +kernel) rfl, pm_in 4 (by decide +kernel) rfl, pt_Y17, RX2, TX2, 7, rfl, rfl⟩
theorem pt_m2_66 : pt_Mp (2, 66, 0, 18) := ⟨pm_in 337 (by decide +kernel) rfl, pm_in 339 (by decide +kernel) rfl, pm_in 5 (by decide +kernel) rfl, pt_Y18, RX2, TX2, 7, rfl, rfl⟩
theorem pt_m2_154 : pt_Mp (2, 154, 3, 900) := rfl
theorem pt_m2_162 : pt_Mp (2, 162, 4, 901) := rfl
theorem pt_m2_71 : pt_Mp (2, 71, 0, 19) := ⟨pm_in 390 (by decide +kernel) rfl, pm_in 392 (by decide +kernel) rfl, pm_in 6 (by decide +kernel) rfl, pt_Y19, RX2, TX2, 7, rfl, rfl⟩
theorem pt_m2_81 : pt_Mp (2, 81, 0, 20) := ⟨pm_in 394 (by decide +kernel) rfl, pm_in 396 (by decide +kernel) rfl, pm_in 7 (by decide +kernel) rfl, pt_Y20, RX2, TX2, 7, rfl, rfl⟩
theorem pt_m2_44 : pt_Mp (2, 44, 0, 21) := ⟨pm_in 398 (by decide +kernel) rfl, pm_in 400 (by decide +kernel) rfl, pm_in 8 (by decide +kernel) rfl, pt_Y21, RX2, TX2, 7, rfl, rfl⟩
theorem pt_m2_87 : pt_Mp (2, 87, 0, 22) := ⟨pm_in 403 (by decide +kernel) rfl, pm_in 405 (by decide +kernel) rfl, pm_in 9 (by decide +kernel) rfl, pt_Y22, RX2, TX2, 7, rfl, rfl⟩
theorem pt_m2_48 : pt_Mp (2, 48, 0, 23) := ⟨pm_in 410 (by decide +kernel) rfl, pm_in 412 (by decide +kernel) rfl, pm_in 10 (by decide +kernel) rfl, pt_Y23, RX2, TX2, 7, rfl, rfl⟩
theorem pt_m2_52 : pt_Mp (2, 52, 0, 24) := ⟨pm_in 414 (by decide +kernel) rfl, pm_in 416 (by decide +kernel) rfl, pm_in 11 (by decide +kernel) rfl, pt_Y24, RX2, TX2, 7, rfl, rfl⟩
theorem pt_m2_105 : pt_Mp (2, 105, 0, 25) := ⟨pm_in 419 (by decide +kernel) rfl, pm_in 421 (by decide +kernel) rfl, pm_in 12 (by decide +kernel) rfl, pt_Y25, RX2, TX2, 7, rfl, rfl⟩
theorem pt_m2_121 : pt_Mp (2, 121, 0, 30) := ⟨pm_in 423 (by decide +kernel) rfl, pm_in 424 (by decide +kernel) rfl, pm_in 425 (by decide +kernel) rfl, pt_Y30, RX4, TX4, 12, rfl, rfl⟩
theorem pt_m2_124 : pt_Mp (2, 124, 0, 32) := ⟨pm_in 431 (by decide +kernel) rfl, pm_in 432 (by decide +kernel) rfl, pm_in 433 (by decide +kernel) rfl, pt_Y32, RX4, TX4, 12, rfl, rfl⟩
theorem pt_m2_128 : pt_Mp (2, 128, 0, 34) := ⟨pm_in 442 (by decide +kernel) rfl, pm_in 443 (by decide +kernel) rfl, pm_in 444 (by decide +kernel) rfl, pt_Y34, RX4, TX4, 12, rfl, rfl⟩
theorem pt_m2_131 : pt_Mp (2, 131, 0, 35) := ⟨pm_in 446 (by decide +kernel) rfl, pm_in 447 (by decide +kernel) rfl, pm_in 448 (by decide +kernel) rfl, pt_Y35, RX4, TX4, 12, rfl, rfl⟩
theorem pt_m2_134 : pt_Mp (2, 134, 0, 37) := ⟨pm_in 456 (by decide +kernel) rfl, pm_in 457 (by decide +kernel) rfl, pm_in 458 (by decide +kernel) rfl, pt_Y37, RX4, TX4, 12, rfl, rfl⟩
theorem pt_m2_114 : pt_Mp (2, 114, 0, 26) := ⟨pm_in 463 (by decide +kernel) rfl, pm_in 465 (by decide +kernel) rfl, pm_in 13 (by decide +kernel) rfl, pt_Y26, RX2, TX2, 7, rfl, rfl⟩
theorem pt_m2_138 : pt_Mp (2, 138, 0, 38) := ⟨pm_in 467 (by decide +kernel) rfl, pm_in 468 (by decide +kernel) rfl, pm_in 469 (by decide +kernel) rfl, pt_Y38, RX4, TX4, 12, rfl, rfl⟩
theorem pt_m2_147 : pt_Mp (2, 147, 0, 39) := ⟨pm_in 478 (by decide +kernel) rfl, pm_in 479 (by decide +kernel) rfl, pm_in 480 (by decide +kernel) rfl, pt_Y39, RX4, TX4, 12, rfl, rfl⟩
theorem pt_m2_141 : pt_Mp (2, 141, 2, 58) := ⟨pm_in 472 (by decide +kernel) rfl, pt_Y58, by decide⟩
theorem pt_m2_144 : pt_Mp (2, 144, 2, 59) := ⟨pm_in 475 (by decide +kernel) rfl, pt_Y59, by decide⟩
def pt_Ml2 : List (Nat × Nat × Nat × Nat) := [(2, 15, 0, 29), (2, 30, 0, 13), (2, 166, 1, 165), (2, 172, 0, 14), (2, 36, 0, 15), (2, 60, 0, 16), (2, 40, 0, 17), (2, 66, 0, 18), (2, 154, 3, 900), (2, 162, 4, 901), (2, 71, 0, 19), (2, 81, 0, 20), (2, 44, 0, 21), (2, 87, 0, 22), (2, 48, 0, 23), (2, 52, 0, 24), (2, 105, 0, 25), (2, 121, 0, 30), (2, 124, 0, 32), (2, 128, 0, 34), (2, 131, 0, 35), (2, 134, 0, 37), (2, 114, 0, 26), (2, 138, 0, 38), (2, 147, 0, 39), (2, 141, 2, 58), (2, 144, 2, 59)]
theorem pt_Ml2_ok : ∀ q ∈ pt_Ml2, pt_Mp q := List.forall_mem_cons.mpr ⟨pt_m2_15, List.forall_mem_cons.mpr ⟨pt_m2_30, List.forall_mem_cons.mpr ⟨pt_m2_166, List.forall_mem_cons.mpr ⟨pt_m2_172, List.forall_mem_cons.mpr ⟨pt_m2_36, List.forall_mem_cons.mpr ⟨pt_m2_60, List.forall_mem_cons.mpr ⟨pt_m2_40, List.forall_mem_cons.mpr ⟨pt_m2_66, List.forall_mem_cons.mpr ⟨pt_m2_154, List.forall_mem_cons.mpr ⟨pt_m2_162, List.forall_mem_cons.mpr ⟨pt_m2_71, List.forall_mem_cons.mpr ⟨pt_m2_81, List.forall_mem_cons.mpr ⟨pt_m2_44, List.forall_mem_cons.mpr ⟨pt_m2_87, List.forall_mem_cons.mpr ⟨pt_m2_48, List.forall_mem_cons.mpr ⟨pt_m2_52, List.forall_mem_cons.mpr ⟨pt_m2_105, List.forall_mem_cons.mpr ⟨pt_m2_121, List.forall_mem_cons.mpr ⟨pt_m2_124, List.forall_mem_cons.mpr ⟨pt_m2_128, List.forall_mem_cons.mpr ⟨pt_m2_131, List.forall_mem_cons.mpr ⟨pt_m2_134, List.forall_mem_cons.mpr ⟨pt_m2_114, List.forall_mem_cons.mpr ⟨pt_m2_138, List.forall_mem_cons.mpr ⟨pt_m2_147, List.forall_mem_cons.mpr ⟨pt_m2_141, List.forall_mem_cons.mpr ⟨pt_m2_144, fun _ h => absurd h List.not_mem_nil⟩⟩⟩⟩⟩⟩⟩⟩⟩⟩⟩⟩⟩⟩⟩⟩⟩⟩⟩⟩⟩⟩⟩⟩⟩⟩⟩
def pt_Ml3 : List (Nat × Nat × Nat × Nat) := []
theorem pt_Ml3_ok : ∀ q ∈ pt_Ml3, pt_Mp q := fun _ h => absurd h List.not_mem_nil
theorem pt_m4_39 : pt_Mp (4, 39, 0, 29) := ⟨pm_in 208 (by decide +kernel) rfl, pm_in 209 (by decide +kernel) rfl, pm_in 210 (by decide +kernel) rfl, pt_Y29, RX4, TX4, 12, rfl, rfl⟩
theorem pt_m4_52 : pt_Mp (4, 52, 0, 31) := ⟨pm_in 427 (by decide +kernel) rfl, pm_in 428 (by decide +kernel) rfl, pm_in 429 (by decide +kernel) rfl, pt_Y31, RX4, TX4, 12, rfl, rfl⟩
theorem pt_m4_56 : pt_Mp (4, 56, 0, 33) := ⟨pm_in 435 (by decide +kernel) rfl, pm_in 436 (by decide +kernel) rfl, pm_in 437 (by decide +kernel) rfl, pt_Y33, RX4, TX4, 12, rfl, rfl⟩
theorem pt_m4_59 : pt_Mp (4, 59, 1, 166) := ⟨pm_in 439 (by decide +kernel) rfl, pm_in 440 (by decide +kernel) rfl, pt_Y166⟩
theorem pt_m4_66 : pt_Mp (4, 66, 0, 36) := ⟨pm_in 451 (by decide +kernel) rfl, pm_in 452 (by decide +kernel) rfl, pm_in 453 (by decide +kernel) rfl, pt_Y36, RX4, TX4, 12, rfl, rfl⟩
theorem pt_m4_70 : pt_Mp (4, 70, 1, 165) := ⟨pm_in 455 (by decide +kernel) rfl, pm_in 318 (by decide +kernel) rfl, pt_Y165⟩
theorem pt_m4_73 : pt_Mp (4, 73, 0, 41) := ⟨pm_in 506 (by decide +kernel) rfl, pm_in 507 (by decide +kernel) rfl, pm_in 508 (by decide +kernel) rfl, pt_Y41, RX4, TX4, 12, rfl, rfl⟩
theorem pt_m4_76 : pt_Mp (4, 76, 1, 47) := ⟨pm_in 672 (by decide +kernel) rfl, pm_in 673 (by decide +kernel) rfl, pt_Y47⟩
theorem pt_m4_79 : pt_Mp (4, 79, 0, 40) := ⟨pm_in 675 (by decide +kernel) rfl, pm_in 503 (by decide +kernel) rfl, pm_in 504 (by decide +kernel) rfl, pt_Y40, RX4, TX4, 12, rfl, rfl⟩
theorem pt_m4_94 : pt_Mp (4, 94, 0, 49) := ⟨pm_in 688 (by decide +kernel) rfl, pm_in 690 (by decide +kernel) rfl, pm_in 16 (by decide +kernel) rfl, pt_Y49, RX4, TX4, 12, rfl, rfl⟩
theorem pt_m4_84 : pt_Mp (4, 84, 0, 53) := ⟨pm_in 706 (by decide +kernel) rfl, pm_in 708 (by decide +kernel) rfl, pm_in 17 (by decide +kernel) rfl, pt_Y53, RX4, TX4, 12, rfl, rfl⟩
theorem pt_m4_88 : pt_Mp (4, 88, 0, 54) := ⟨pm_in 710 (by decide +kernel) rfl, pm_in 712 (by decide +kernel) rfl, pm_in 18 (by decide +kernel) rfl, pt_Y54, RX4, TX4, 12, rfl, rfl⟩
theorem pt_m4_91 : pt_Mp (4, 91, 0, 43) := ⟨pm_in 714 (by decide +kernel) rfl, pm_in 523 (by decide +kernel) rfl, pm_in 524 (by decide +kernel) rfl, pt_Y43, RX4, TX4, 12, rfl, rfl⟩
def pt_Ml4 : List (Nat × Nat × Nat × Nat) := [(4, 39, 0, 29), (4, 52, 0, 31), (4, 56, 0, 33), (4, 59, 1, 166), (4, 66, 0, 36), (4, 70, 1, 165), (4, 73, 0, 41), (4, 76, 1, 47), (4, 79, 0, 40), (4, 94, 0, 49), (4, 84, 0, 53), (4, 88, 0, 54), (4, 91, 0, 43)]
theorem pt_Ml4_ok : ∀ q ∈ pt_Ml4, pt_Mp q := List.forall_mem_cons.mpr ⟨pt_m4_39, List.forall_mem_cons.mpr ⟨pt_m4_52, List.forall_mem_cons.mpr ⟨pt_m4_56, List.forall_mem_cons.mpr ⟨pt_m4_59, List.forall_mem_cons.mpr ⟨pt_m4_66, List.forall_mem_cons.mpr ⟨pt_m4_70, List.forall_mem_cons.mpr ⟨pt_m4_73, List.forall_mem_cons.mpr ⟨pt_m4_76, List.forall_mem_cons.mpr ⟨pt_m4_79, List.forall_mem_cons.mpr ⟨pt_m4_94, List.forall_mem_cons.mpr ⟨pt_m4_84, List.forall_mem_cons.mpr ⟨pt_m4_88, List.forall_mem_cons.mpr ⟨pt_m4_91, fun _ h => absurd h List.not_mem_nil⟩⟩⟩⟩⟩⟩⟩⟩⟩⟩⟩⟩⟩
theorem pt_m5_53 : pt_Mp (5, 53, 0, 27) := ⟨pm_in 292 (by decide +kernel) rfl, pm_in 293 (by decide +kernel) rfl, pm_in 294 (by decide +kernel) rfl, pt_Y27, RX3, TX3, 2, rfl, rfl⟩
theorem pt_m5_57 : pt_Mp (5, 57, 0, 28) := ⟨pm_in 296 (by decide +kernel) rfl, pm_in 297 (by decide +kernel) rfl, pm_in 298 (by decide +kernel) rfl, pt_Y28, RX3, TX3, 2, rfl, rfl⟩
theorem pt_m5_64 : pt_Mp (5, 64, 0, 12) := ⟨pm_in 308 (by decide +kernel) rfl, pm_in 309 (by decide +kernel) rfl, pm_in 310 (by decide +kernel) rfl, pt_Y12, RX2, TX2, 7, rfl, rfl⟩
theorem pt_m5_81 : pt_Mp (5, 81, 0, 31) := ⟨pm_in 492 (by decide +kernel) rfl, pm_in 428 (by decide +kernel) rfl, pm_in 429 (by decide +kernel) rfl, pt_Y31, RX4, TX4, 12, rfl, rfl⟩
theorem pt_m5_85 : pt_Mp (5, 85, 0, 36) := ⟨pm_in 493 (by decide +kernel) rfl, pm_in 452 (by decide +kernel) rfl, pm_in 453 (by decide +kernel) rfl, pt_Y36, RX4, TX4, 12, rfl, rfl⟩
theorem pt_m5_89 : pt_Mp (5, 89, 0, 33) := ⟨pm_in 494 (by decide +kernel) rfl, pm_in 436 (by decide +kernel) rfl, pm_in 437 (by decide +kernel) rfl, pt_Y33, RX4, TX4, 12, rfl, rfl⟩
theorem pt_m5_92 : pt_Mp (5, 92, 1, 63) := ⟨pm_in 499 (by decide +kernel) rfl, pm_in 500 (by decide +kernel) rfl, pt_Y63⟩
theorem pt_m5_96 : pt_Mp (5, 96, 0, 40) := ⟨pm_in 502 (by decide +kernel) rfl, pm_in 503 (by decide +kernel) rfl, pm_in 504 (by decide +kernel) rfl, pt_Y40, RX4, TX4, 12, rfl, rfl⟩
theorem pt_m5_127 : pt_Mp (5, 127, 0, 42) := ⟨pm_in 518 (by decide +kernel) rfl, pm_in 519 (by decide +kernel) rfl, pm_in 520 (by decide +kernel) rfl, pt_Y42, RX4, TX4, 12, rfl, rfl⟩
theorem pt_m5_142 : pt_Mp (5, 142, 0, 43) := ⟨pm_in 522 (by decide +kernel) rfl, pm_in 523 (by decide +kernel) rfl, pm_in 524 (by decide +kernel) rfl, pt_Y43, RX4, TX4, 12, rfl, rfl⟩
theorem pt_m5_212 : pt_Mp (5, 212, 0, 32) := ⟨pm_in 530 (by decide +kernel) rfl, pm_in 432 (by decide +kernel) rfl, pm_in 433 (by decide +kernel) rfl, pt_Y32, RX4, TX4, 12, rfl, rfl⟩
theorem pt_m5_222 : pt_Mp (5, 222, 0, 34) := ⟨pm_in 531 (by decide +kernel) rfl, pm_in 443 (by decide +kernel) rfl, pm_in 444 (by decide +kernel) rfl, pt_Y34, RX4, TX4, 12, rfl, rfl⟩
theorem pt_m5_225 : pt_Mp (5, 225, 0, 35) := ⟨pm_in 532 (by decide +kernel) rfl, pm_in 447 (by decide +kernel) rfl, pm_in 448 (by decide +kernel) rfl, pt_Y35, RX4, TX4, 12, rfl, rfl⟩
theorem pt_m5_209 : pt_Mp (5, 209, 0, 30) := ⟨pm_in 533 (by decide +kernel) rfl, pm_in 424 (by decide +kernel) rfl, pm_in 425 (by decide +kernel) rfl, pt_Y30, RX4, TX4, 12, rfl, rfl⟩
theorem pt_m5_215 : pt_Mp (5, 215, 0, 37) := ⟨pm_in 534 (by decide +kernel) rfl, pm_in 457 (by decide +kernel) rfl, pm_in 458 (by decide +kernel) rfl, pt_Y37, RX4, TX4, 12, rfl, rfl⟩
theorem pt_m5_228 : pt_Mp (5, 228, 0, 9) := ⟨pm_in 535 (by decide +kernel) rfl, pm_in 536 (by decide +kernel) rfl, pm_in 537 (by decide +kernel) rfl, pt_Y9, RX1, TX1, 4, rfl, rfl⟩
theorem pt_m5_231 : pt_Mp (5, 231, 1, 58) := ⟨pm_in 547 (by decide +kernel) rfl, pm_in 472 (by decide +kernel) rfl, pt_Y58⟩
theorem pt_m5_234 : pt_Mp (5, 234, 1, 59) := ⟨pm_in 548 (by decide +kernel) rfl, pm_in 475 (by decide +kernel) rfl, pt_Y59⟩
theorem pt_m5_237 : pt_Mp (5, 237, 0, 38) := ⟨pm_in 549 (by decide +kernel) rfl, pm_in 468 (by decide +kernel) rfl, pm_in 469 (by decide +kernel) rfl, pt_Y38, RX4, TX4, 12, rfl, rfl⟩
theorem pt_m5_240 : pt_Mp (5, 240, 0, 39) := ⟨pm_in 550 (by decide +kernel) rfl, pm_in 479 (by decide +kernel) rfl, pm_in 480 (by decide +kernel) rfl, pt_Y39, RX4, TX4, 12, rfl, rfl⟩
theorem pt_m5_99 : pt_Mp (5, 99, 1, 69) := ⟨pm_in 555 (by decide +kernel) rfl, pm_in 556 (by decide +kernel) rfl, pt_Y69⟩
theorem pt_m5_202 : pt_Mp (5, 202, 1, 71) := ⟨pm_in 564 (by decide +kernel) rfl, pm_in 565 (by decide +kernel) rfl, pt_Y71⟩
theorem pt_m5_246 : pt_Mp (5, 246, 0, 11) := ⟨pm_in 571 (by decide +kernel) rfl, pm_in 572 (by decide +kernel) rfl, pm_in 573 (by decide +kernel) rfl, pt_Y11, RX1, TX1, 4, rfl, rfl⟩
theorem pt_m5_145 : pt_Mp (5, 145, 1, 75) := ⟨pm_in 664 (by decide +kernel) rfl, pm_in 665 (by decide +kernel) rfl, pt_Y75⟩
theorem pt_m5_149 : pt_Mp (5, 149, 0, 46) := ⟨pm_in 668 (by decide +kernel) rfl, pm_in 669 (by decide +kernel) rfl, pm_in 670 (by decide +kernel) rfl, pt_Y46, RX4, TX4, 12, rfl, rfl⟩
theorem pt_m5_155 : pt_Mp (5, 155, 0, 48) := ⟨pm_in 684 (by decide +kernel) rfl, pm_in 685 (by decide +kernel) rfl, pm_in 686 (by decide +kernel) rfl, pt_Y48, RX4, TX4, 12, rfl, rfl⟩
theorem pt_m5_159 : pt_Mp (5, 159, 0, 50) := ⟨pm_in 693 (by decide +kernel) rfl, pm_in 694 (by decide +kernel) rfl, pm_in 695 (by decide +kernel) rfl, pt_Y50, RX4, TX4, 12, rfl, rfl⟩
theorem pt_m5_163 : pt_Mp (5, 163, 0, 51) := ⟨pm_in 698 (by decide +kernel) rfl, pm_in 699 (by decide +kernel) rfl, pm_in 700 (by decide +kernel) rfl, pt_Y51, RX4, TX4, 12, rfl, rfl⟩
theorem pt_m5_166 : pt_Mp (5, 166, 0, 52) := ⟨pm_in 702 (by decide +kernel) rfl, pm_in 703 (by decide +kernel) rfl, pm_in 704 (by decide +kernel) rfl, pt_Y52, RX4, TX4, 12, rfl, rfl⟩
theorem pt_m5_171 : pt_Mp (5, 171, 0, 0) := ⟨pm_in 723 (by decide +kernel) rfl, pm_in 724 (by decide +kernel) rfl, pm_in 725 (by decide +kernel) rfl, pt_Y0, RX0, TX0, 12, rfl, rfl⟩
theorem pt_m5_175 : pt_Mp (5, 175, 0, 6) := ⟨pm_in 752 (by decide +kernel) rfl, pm_in 753 (by decide +kernel) rfl, pm_in 754 (by decide +kernel) rfl, pt_Y6, RX0, TX0, 12, rfl, rfl⟩
theorem pt_m5_179 : pt_Mp (5, 179, 0, 7) := ⟨pm_in 760 (by decide +kernel) rfl, pm_in 761 (by decide +kernel) rfl, pm_in 762 (by decide +kernel) rfl, pt_Y7, RX0, TX0, 12, rfl, rfl⟩
theorem pt_m5_195 : pt_Mp (5, 195, 0, 80) := ⟨pm_in 779 (by decide +kernel) rfl, pm_in 781 (by decide +kernel) rfl, pm_in 22 (by decide +kernel) rfl, pt_Y80, RX5, TX5, 7, rfl, rfl⟩
theorem pt_m5_199 : pt_Mp (5, 199, 0, 8) := ⟨pm_in 790 (by decide +kernel) rfl, pm_in 791 (by decide +kernel) rfl, pm_in 792 (by decide +kernel) rfl, pt_Y8, RX0, TX0, 12, rfl, rfl⟩
theorem pt_m5_205 : pt_Mp (5, 205, 0, 84) := ⟨pm_in 808 (by decide +kernel) rfl, pm_in 810 (by decide +kernel) rfl, pm_in 23 (by decide +kernel) rfl, pt_Y84, RX5, TX5, 7, rfl, rfl⟩
theorem pt_m5_252 : pt_Mp (5, 252, 0, 1) := ⟨pm_in 812 (by decide +kernel) rfl, pm_in 728 (by decide +kernel) rfl, pm_in 729 (by decide +kernel) rfl, pt_Y1, RX0, TX0, 12, rfl, rfl⟩
theorem pt_m5_256 : pt_Mp (5, 256, 0, 4) := ⟨pm_in 814 (by decide +kernel) rfl, pm_in 745 (by decide +kernel) rfl, pm_in 746 (by decide +kernel) rfl, pt_Y4, RX0, TX0, 12, rfl, rfl⟩
theorem pt_m5_219 : pt_Mp (5, 219, 0, 44) := ⟨pm_in 822 (by decide +kernel) rfl, pm_in 576 (by decide +kernel) rfl, pm_in 577 (by decide +kernel) rfl, pt_Y44, RX4, TX4, 12, rfl, rfl⟩
def pt_Ml5 : List (Nat × Nat × Nat × Nat) := [(5, 53, 0, 27), (5, 57, 0, 28), (5, 64, 0, 12), (5, 81, 0, 31), (5, 85, 0, 36), (5, 89, 0, 33), (5, 92, 1, 63), (5, 96, 0, 40), (5, 127, 0, 42), (5, 142, 0, 43), (5, 212, 0, 32), (5, 222, 0, 34), (5, 225, 0, 35), (5, 209, 0, 30), (5, 215, 0, 37), (5, 228, 0, 9), (5, 231, 1, 58), (5, 234, 1, 59), (5, 237, 0, 38), (5, 240, 0, 39), (5, 99, 1, 69), (5, 202, 1, 71), (5, 246, 0, 11), (5, 145, 1, 75), (5, 149, 0, 46), (5, 155, 0, 48), (5, 159, 0, 50), (5, 163, 0, 51), (5, 166, 0, 52), (5, 171, 0, 0), (5, 175, 0, 6), (5, 179, 0, 7), (5, 195, 0, 80), (5, 199, 0, 8), (5, 205, 0, 84), (5, 252, 0, 1), (5, 256, 0, 4), (5, 219, 0, 44)]
theorem pt_Ml5_ok : ∀ q ∈ pt_Ml5, pt_Mp q := List.forall_mem_cons.mpr ⟨pt_m5_53, List.forall_mem_cons.mpr ⟨pt_m5_57, List.forall_mem_cons.mpr ⟨pt_m5_64, List.forall_mem_cons.mpr ⟨pt_m5_81, List.forall_mem_cons.mpr ⟨pt_m5_85, List.forall_mem_cons.mpr ⟨pt_m5_89, List.forall_mem_cons.mpr ⟨pt_m5_92, List.forall_mem_cons.mpr ⟨pt_m5_96, List.forall_mem_cons.mpr ⟨pt_m5_127, List.forall_mem_cons.mpr ⟨pt_m5_142, List.forall_mem_cons.mpr ⟨pt_m5_212, List.forall_mem_cons.mpr ⟨pt_m5_222, List.forall_mem_cons.mpr ⟨pt_m5_225, List.forall_mem_cons.mpr ⟨pt_m5_209, List.forall_mem_cons.mpr ⟨pt_m5_215, List.forall_mem_cons.mpr ⟨pt_m5_228, List.forall_mem_cons.mpr ⟨pt_m5_231, List.forall_mem_cons.mpr ⟨pt_m5_234, List.forall_mem_cons.mpr ⟨pt_m5_237, List.forall_mem_cons.mpr ⟨pt_m5_240, List.forall_mem_cons.mpr ⟨pt_m5_99, List.forall_mem_cons.mpr ⟨pt_m5_202, List.forall_mem_cons.mpr ⟨pt_m5_246, List.forall_mem_cons.mpr ⟨pt_m5_145, List.forall_mem_cons.mpr ⟨pt_m5_149, List.forall_mem_cons.mpr ⟨pt_m5_155, List.forall_mem_cons.mpr ⟨pt_m5_159, List.forall_mem_cons.mpr ⟨pt_m5_163, List.forall_mem_cons.mpr ⟨pt_m5_166, List.forall_mem_cons.mpr ⟨pt_m5_171, List.forall_mem_cons.mpr ⟨pt_m5_175, List.forall_mem_cons.mpr ⟨pt_m5_179, List.forall_mem_cons.mpr ⟨pt_m5_195, List.forall_mem_cons.mpr ⟨pt_m5_199, List.forall_mem_cons.mpr ⟨pt_m5_205, List.forall_mem_cons.mpr ⟨pt_m5_252, List.forall_mem_cons.mpr ⟨pt_m5_256, List.forall_mem_cons.mpr ⟨pt_m5_219, fun _ h => absurd h List.not_mem_nil⟩⟩⟩⟩⟩⟩⟩⟩⟩⟩⟩⟩⟩⟩⟩⟩⟩⟩⟩⟩⟩⟩⟩⟩⟩⟩⟩⟩⟩⟩⟩⟩⟩⟩⟩⟩⟩⟩
theorem pt_m6_14 : pt_Mp (6, 14, 0, 88) := ⟨pm_in 831 (by decide +kernel) rfl, pm_in 833 (by decide +kernel) rfl, pm_in 24 (by decide +kernel) rfl, pt_Y88, RX6, TX6, 23, rfl, rfl⟩
theorem pt_m6_103 : pt_Mp (6, 103, 1, 90) := ⟨pm_in 845 (by decide +kernel) rfl, pm_in 846 (by decide +kernel) rfl, pt_Y90⟩
theorem pt_m6_114 : pt_Mp (6, 114, 0, 92) := ⟨pm_in 922 (by decide +kernel) rfl, pm_in 924 (by decide +kernel) rfl, pm_in 25 (by decide +kernel) rfl, pt_Y92, RX6, TX6, 23, rfl, rfl⟩
theorem pt_m6_30 : pt_Mp (6, 30, 1, 93) := ⟨pm_in 926 (by decide +kernel) rfl, pm_in 927 (by decide +kernel) rfl, pt_Y93⟩
theorem pt_m6_34 : pt_Mp (6, 34, 1, 94) := ⟨pm_in 929 (by decide +kernel) rfl, pm_in 930 (by decide +kernel) rfl, pt_Y94⟩
theorem pt_m6_44 : pt_Mp (6, 44, 0, 95) := ⟨pm_in 932 (by decide +kernel) rfl, pm_in 934 (by decide +kernel) rfl, pm_in 26 (by decide +kernel) rfl, pt_Y95, RX6, TX6, 23, rfl, rfl⟩
theorem pt_m6_110 : pt_Mp (6, 110, 1, 96) := ⟨pm_in 938 (by decide +kernel) rfl, pm_in 939 (by decide +kernel) rfl, pt_Y96⟩
theorem pt_m6_166 : pt_Mp (6, 166, 0, 97) := ⟨pm_in 941 (by decide +kernel) rfl, pm_in 943 (by decide +kernel) rfl, pm_in 27 (by decide +kernel) rfl, pt_Y97, RX6, TX6, 23, rfl, rfl⟩
theorem pt_m6_157 : pt_Mp (6, 157, 0, 98) := ⟨pm_in 945 (by decide +kernel) rfl, pm_in 947 (by decide +kernel) rfl, pm_in 28 (by decide +kernel) rfl, pt_Y98, RX6, TX6, 23, rfl, rfl⟩
theorem pt_m6_60 : pt_Mp (6, 60, 1, 99) := ⟨pm_in 949 (by decide +kernel) rfl, pm_in 950 (by decide +kernel) rfl, pt_Y99⟩
theorem pt_m6_54 : pt_Mp (6, 54, 1, 100) := ⟨pm_in 953 (by decide +kernel) rfl, pm_in 954 (by decide +kernel) rfl, pt_Y100⟩
theorem pt_m6_64 : pt_Mp (6, 64, 0, 101) := ⟨pm_in 956 (by decide +kernel) rfl, pm_in 958 (by decide +kernel) rfl, pm_in 29 (by decide +kernel) rfl, pt_Y101, RX6, TX6, 23, rfl, rfl⟩
theorem pt_m6_107 : pt_Mp (6, 107, 0, 102) := ⟨pm_in 960 (by decide +kernel) rfl, pm_in 962 (by decide +kernel) rfl, pm_in 30 (by decide +kernel) rfl, pt_Y102, RX6, TX6, 23, rfl, rfl⟩
theorem pt_m6_118 : pt_Mp (6, 118, 0, 103) := ⟨pm_in 965 (by decide +kernel) rfl, pm_in 967 (by decide +kernel) rfl, pm_in 31 (by decide +kernel) rfl, pt_Y103, RX6, TX6, 23, rfl, rfl⟩
theorem pt_m6_160 : pt_Mp (6, 160, 0, 104) := ⟨pm_in 969 (by decide +kernel) rfl, pm_in 971 (by decide +kernel) rfl, pm_in 32 (by decide +kernel) rfl, pt_Y104, RX6, TX6, 23, rfl, rfl⟩
theorem pt_m6_123 : pt_Mp (6, 123, 0, 105) := ⟨pm_in 974 (by decide +kernel) rfl, pm_in 976 (by decide +kernel) rfl, pm_in 33 (by decide +kernel) rfl, pt_Y105, RX6, TX6, 23, rfl, rfl⟩
theorem pt_m6_127 : pt_Mp (6, 127, 1, 106) := ⟨pm_in 978 (by decide +kernel) rfl, pm_in 979 (by decide +kernel) rfl, pt_Y106⟩
theorem pt_m6_131 : pt_Mp (6, 131, 0, 107) := ⟨pm_in 981 (by decide +kernel) rfl, pm_in 983 (by decide +kernel) rfl, pm_in 34 (by decide +kernel) rfl, pt_Y107, RX6, TX6, 23, rfl, rfl⟩
theorem pt_m6_68 : pt_Mp (6, 68, 1, 108) := ⟨pm_in 985 (by decide +kernel) rfl, pm_in 986 (by decide +kernel) rfl, pt_Y108⟩
theorem pt_m6_163 : pt_Mp (6, 163, 0, 109) := ⟨pm_in 989 (by decide +kernel) rfl, pm_in 991 (by decide +kernel) rfl, pm_in 35 (by decide +kernel) rfl, pt_Y109, RX6, TX6, 23, rfl, rfl⟩
theorem pt_m6_151 : pt_Mp (6, 151, 0, 110) := ⟨pm_in 993 (by decide +kernel) rfl, pm_in 995 (by decide +kernel) rfl, pm_in 36 (by decide +kernel) rfl, pt_Y110, RX6, TX6, 23, rfl, rfl⟩
theorem pt_m6_141 : pt_Mp (6, 141, 1, 111) := ⟨pm_in 997 (by decide +kernel) rfl, pm_in 998 (by decide +kernel) rfl, pt_Y111⟩
theorem pt_m6_134 : pt_Mp (6, 134, 1, 112) := ⟨pm_in 1000 (by decide +kernel) rfl, pm_in 1001 (by decide +kernel) rfl, pt_Y112⟩
theorem pt_m6_145 : pt_Mp (6, 145, 1, 113) := ⟨pm_in 1003 (by decide +kernel) rfl, pm_in 1004 (by decide +kernel) rfl, pt_Y113⟩
theorem pt_m6_148 : pt_Mp (6, 148, 1, 114) := ⟨pm_in 1006 (by decide +kernel) rfl, pm_in 1007 (by decide +kernel) rfl, pt_Y114⟩
theorem pt_m6_137 : pt_Mp (6, 137, 1, 115) := ⟨pm_in 1009 (by decide +kernel) rfl, pm_in 1010 (by decide +kernel) rfl, pt_Y115⟩
theorem pt_m6_154 : pt_Mp (6, 154, 0, 116) := ⟨pm_in 1012 (by decide +kernel) rfl, pm_in 1014 (by decide +kernel) rfl, pm_in 37 (by decide +kernel) rfl, pt_Y116, RX6, TX6, 23, rfl, rfl⟩
theorem pt_m6_169 : pt_Mp (6, 169, 0, 117) := ⟨pm_in 1016 (by decide +kernel) rfl, pm_in 1018 (by decide +kernel) rfl, pm_in 38 (by decide +kernel) rfl, pt_Y117, RX6, TX6, 23, rfl, rfl⟩
theorem pt_m6_182 : pt_Mp (6, 182, 1, 121) := ⟨pm_in 1032 (by decide +kernel) rfl, pm_in 1033 (by decide +kernel) rfl, pt_Y121⟩
theorem pt_m6_185 : pt_Mp (6, 185, 0, 122) := ⟨pm_in 1035 (by decide +kernel) rfl, pm_in 1037 (by decide +kernel) rfl, pm_in 39 (by decide +kernel) rfl, pt_Y122, RX6, TX6, 23, rfl, rfl⟩
theorem pt_m6_175 : pt_Mp (6, 175, 0, 123) := ⟨pm_in 1039 (by decide +kernel) rfl, pm_in 1041 (by decide +kernel) rfl, pm_in 40 (by decide +kernel) rfl, pt_Y123, RX6, TX6, 23, rfl, rfl⟩
theorem pt_m6_188 : pt_Mp (6, 188, 1, 125) := ⟨pm_in 1047 (by decide +kernel) rfl, pm_in 1048 (by decide +kernel) rfl, pt_Y125⟩
theorem pt_m6_191 : pt_Mp (6, 191, 0, 126) := ⟨pm_in 1050 (by decide +kernel) rfl, pm_in 1052 (by decide +kernel) rfl, pm_in 41 (by decide +kernel) rfl, pt_Y126, RX6, TX6, 23, rfl, rfl⟩
theorem pt_m6_195 : pt_Mp (6, 195, 0, 129) := ⟨pm_in 1062 (by decide +kernel) rfl, pm_in 1064 (by decide +kernel) rfl, pm_in 42 (by decide +kernel) rfl, pt_Y129, RX6, TX6, 23, rfl, rfl⟩
theorem pt_m6_198 : pt_Mp (6, 198, 0, 130) := ⟨pm_in 1066 (by decide +kernel) rfl, pm_in 1068 (by decide +kernel) rfl, pm_in 43 (by decide +kernel) rfl, pt_Y130, RX6, TX6, 23, rfl, rfl⟩
theorem pt_m6_179 : pt_Mp (6, 179, 0, 131) := ⟨pm_in 1070 (by decide +kernel) rfl, pm_in 1072 (by decide +kernel) rfl, pm_in 44 (by decide +kernel) rfl, pt_Y131, RX6, TX6, 23, rfl, rfl⟩
theorem pt_m6_217 : pt_Mp (6, 217, 1, 133) := ⟨pm_in 1078 (by decide +kernel) rfl, pm_in 1079 (by decide +kernel) rfl, pt_Y133⟩
theorem pt_m6_221 : pt_Mp (6, 221, 0, 134) := ⟨pm_in 1081 (by decide +kernel) rfl, pm_in 1083 (by decide +kernel) rfl, pm_in 45 (by decide +kernel) rfl, pt_Y134, RX6, TX6, 23, rfl, rfl⟩
theorem pt_m6_224 : pt_Mp (6, 224, 0, 136) := ⟨pm_in 1089 (by decide +kernel) rfl, pm_in 1091 (by decide +kernel) rfl, pm_in 46 (by decide +kernel) rfl, pt_Y136, RX6, TX6, 23, rfl, rfl⟩
theorem pt_m6_204 : pt_Mp (6, 204, 0, 137) := ⟨pm_in 1093 (by decide +kernel) rfl, pm_in 1095 (by decide +kernel) rfl, pm_in 47 (by decide +kernel) rfl, pt_Y137, RX6, TX6, 23, rfl, rfl⟩
theorem pt_m6_227 : pt_Mp (6, 227, 0, 138) := ⟨pm_in 1098 (by decide +kernel) rfl, pm_in 1100 (by decide +kernel) rfl, pm_in 48 (by decide +kernel) rfl, pt_Y138, RX6, TX6, 23, rfl, rfl⟩
theorem pt_m6_208 : pt_Mp (6, 208, 0, 139) := ⟨pm_in 1102 (by decide +kernel) rfl, pm_in 1104 (by decide +kernel) rfl, pm_in 49 (by decide +kernel) rfl, pt_Y139, RX6, TX6, 23, rfl, rfl⟩
theorem pt_m6_201 : pt_Mp (6, 201, 0, 140) := ⟨pm_in 1106 (by decide +kernel) rfl, pm_in 1108 (by decide +kernel) rfl, pm_in 50 (by decide +kernel) rfl, pt_Y140, RX6, TX6, 23, rfl, rfl⟩
theorem pt_m6_212 : pt_Mp (6, 212, 0, 141) := ⟨pm_in 1110 (by decide +kernel) rfl, pm_in 1112 (by decide +kernel) rfl, pm_in 51 (by decide +kernel) rfl, pt_Y141, RX6, TX6, 23, rfl, rfl⟩
theorem pt_m6_263 : pt_Mp (6, 263, 0, 143) := ⟨pm_in 1118 (by decide +kernel) rfl, pm_in 1120 (by decide +kernel) rfl, pm_in 52 (by decide +kernel) rfl, pt_Y143, RX6, TX6, 23, rfl, rfl⟩
theorem pt_m6_255 : pt_Mp (6, 255, 0, 144) := ⟨pm_in 1122 (by decide +kernel) rfl, pm_in 1124 (by decide +kernel) rfl, pm_in 53 (by decide +kernel) rfl, pt_Y144, RX6, TX6, 23, rfl, rfl⟩
theorem pt_m6_233 : pt_Mp (6, 233, 0, 145) := ⟨pm_in 1126 (by decide +kernel) rfl, pm_in 1128 (by decide +kernel) rfl, pm_in 54 (by decide +kernel) rfl, pt_Y145, RX6, TX6, 23, rfl, rfl⟩
theorem pt_m6_248 : pt_Mp (6, 248, 0, 146) := ⟨pm_in 1130 (by decide +kernel) rfl, pm_in 1132 (by decide +kernel) rfl, pm_in 55 (by decide +kernel) rfl, pt_Y146, RX6, TX6, 23, rfl, rfl⟩
theorem pt_m6_259 : pt_Mp (6, 259, 1, 147) := ⟨pm_in 1134 (by decide +kernel) rfl, pm_in 1135 (by decide +kernel) rfl, pt_Y147⟩
theorem pt_m6_267 : pt_Mp (6, 267, 1, 151) := ⟨pm_in 1152 (by decide +kernel) rfl, pm_in 1153 (by decide +kernel) rfl, pt_Y151⟩
theorem pt_m6_270 : pt_Mp (6, 270, 0, 153) := ⟨pm_in 1159 (by decide +kernel) rfl, pm_in 1161 (by decide +kernel) rfl, pm_in 56 (by decide +kernel) rfl, pt_Y153, RX6, TX6, 23, rfl, rfl⟩
theorem pt_m6_274 : pt_Mp (6, 274, 0, 156) := ⟨pm_in 1171 (by decide +kernel) rfl, pm_in 1173 (by decide +kernel) rfl, pm_in 57 (by decide +kernel) rfl, pt_Y156, RX6, TX6, 23, rfl, rfl⟩
theorem pt_m6_277 : pt_Mp (6, 277, 0, 157) := ⟨pm_in 1175 (by decide +kernel) rfl, pm_in 1177 (by decide +kernel) rfl, pm_in 58 (by decide +kernel) rfl, pt_Y157, RX6, TX6, 23, rfl, rfl⟩
theorem pt_m6_280 : pt_Mp (6, 280, 0, 159) := ⟨pm_in 1183 (by decide +kernel) rfl, pm_in 1185 (by decide +kernel) rfl, pm_in 59 (by decide +kernel) rfl, pt_Y159, RX6, TX6, 23, rfl, rfl⟩
theorem pt_m6_284 : pt_Mp (6, 284, 0, 162) := ⟨pm_in 1196 (by decide +kernel) rfl, pm_in 1198 (by decide +kernel) rfl, pm_in 60 (by decide +kernel) rfl, pt_Y162, RX6, TX6, 23, rfl, rfl⟩
def pt_Ml6 : List (Nat × Nat × Nat × Nat) := [(6, 14, 0, 88), (6, 103, 1, 90), (6, 114, 0, 92), (6, 30, 1, 93), (6, 34, 1, 94), (6, 44, 0, 95), (6, 110, 1, 96), (6, 166, 0, 97), (6, 157, 0, 98), (6, 60, 1, 99), (6, 54, 1, 100), (6, 64, 0, 101), (6, 107, 0, 102), (6, 118, 0, 103), (6, 160, 0, 104), (6, 123, 0, 105), (6, 127, 1, 106), (6, 131, 0, 107), (6, 68, 1, 108), (6, 163, 0, 109), (6, 151, 0, 110), (6, 141, 1, 111), (6, 134, 1, 112), (6, 145, 1, 113), (6, 148, 1, 114), (6, 137, 1, 115), (6, 154, 0, 116), (6, 169, 0, 117), (6, 182, 1, 121), (6, 185, 0, 122), (6, 175, 0, 123), (6, 188, 1, 125), (6, 191, 0, 126), (6, 195, 0, 129), (6, 198, 0, 130), (6, 179, 0, 131), (6, 217, 1, 133), (6, 221, 0, 134), (6, 224, 0, 136), (6, 204, 0, 137), (6, 227, 0, 138), (6, 208, 0, 139), (6, 201, 0, 140), (6, 212, 0, 141), (6, 263, 0, 143), (6, 255, 0, 144), (6, 233, 0, 145), (6, 248, 0, 146), (6, 259, 1, 147), (6, 267, 1, 151), (6, 270, 0, 153), (6, 274, 0, 156), (6, 277, 0, 157), (6, 280, 0, 159), (6, 284, 0, 162)]
theorem pt_Ml6_ok : ∀ q ∈ pt_Ml6, pt_Mp q := List.forall_mem_cons.mpr ⟨pt_m6_14, List.forall_mem_cons.mpr ⟨pt_m6_103, List.forall_mem_cons.mpr ⟨pt_m6_114, List.forall_mem_cons.mpr ⟨pt_m6_30, List.forall_mem_cons.mpr ⟨pt_m6_34, List.forall_mem_cons.mpr ⟨pt_m6_44, List.forall_mem_cons.mpr ⟨pt_m6_110, List.forall_mem_cons.mpr ⟨pt_m6_166, List.forall_mem_cons.mpr ⟨pt_m6_157, List.forall_mem_cons.mpr ⟨pt_m6_60, List.forall_mem_cons.mpr ⟨pt_m6_54, List.forall_mem_cons.mpr ⟨pt_m6_64, List.forall_mem_cons.mpr ⟨pt_m6_107, List.forall_mem_cons.mpr ⟨pt_m6_118, List.forall_mem_cons.mpr ⟨pt_m6_160, List.forall_mem_cons.mpr ⟨pt_m6_123, List.forall_mem_cons.mpr ⟨pt_m6_127, List.forall_mem_cons.mpr ⟨pt_m6_131, List.forall_mem_cons.mpr ⟨pt_m6_68, List.forall_mem_cons.mpr ⟨pt_m6_163, List.forall_mem_cons.mpr ⟨pt_m6_151, List.forall_mem_cons.mpr ⟨pt_m6_141, List.forall_mem_cons.mpr ⟨pt_m6_134, List.forall_mem_cons.mpr ⟨pt_m6_145, List.forall_mem_cons.mpr ⟨pt_m6_148, List.forall_mem_cons.mpr ⟨pt_m6_137, List.forall_mem_cons.mpr ⟨pt_m6_154, List.forall_mem_cons.mpr ⟨pt_m6_169, List.forall_mem_cons.mpr ⟨pt_m6_182, List.forall_mem_cons.mpr ⟨pt_m6_185, List.forall_mem_cons.mpr ⟨pt_m6_175, List.forall_mem_cons.mpr ⟨pt_m6_188, List.forall_mem_cons.mpr ⟨pt_m6_191, List.forall_mem_cons.mpr ⟨pt_m6_195, List.forall_mem_cons.mpr ⟨pt_m6_198, List.forall_mem_cons.mpr ⟨pt_m6_179, List.forall_mem_cons.mpr ⟨pt_m6_217, List.forall_mem_cons.mpr ⟨pt_m6_221, List.forall_mem_cons.mpr ⟨pt_m6_224, List.forall_mem_cons.mpr ⟨pt_m6_204, List.forall_mem_cons.mpr ⟨pt_m6_227, List.forall_mem_cons.mpr ⟨pt_m6_208, List.forall_mem_cons.mpr ⟨pt_m6_201, List.forall_mem_cons.mpr ⟨pt_m6_212, List.forall_mem_cons.mpr ⟨pt_m6_263, List.forall_mem_cons.mpr ⟨pt_m6_255, List.forall_mem_cons.mpr ⟨pt_m6_233, List.forall_mem_cons.mpr ⟨pt_m6_248, List.forall_mem_cons.mpr ⟨pt_m6_259, List.forall_mem_cons.mpr ⟨pt_m6_267, List.forall_mem_cons.mpr ⟨pt_m6_270, List.forall_mem_cons.mpr ⟨pt_m6_274, List.forall_mem_cons.mpr ⟨pt_m6_277, List.forall_mem_cons.mpr ⟨pt_m6_280, List.forall_mem_cons.mpr ⟨pt_m6_284, fun _ h => absurd h List.not_mem_nil⟩⟩⟩⟩⟩⟩⟩⟩⟩⟩⟩⟩⟩⟩⟩⟩⟩⟩⟩⟩⟩⟩⟩⟩⟩⟩⟩⟩⟩⟩⟩⟩⟩⟩⟩⟩⟩⟩⟩⟩⟩⟩⟩⟩⟩⟩⟩⟩⟩⟩⟩⟩⟩⟩⟩
def pt_Ml : List (Nat × Nat × Nat × Nat) := pt_Ml0 ++ (pt_Ml1 ++ (pt_Ml2 ++ (pt_Ml3 ++ (pt_Ml4 ++ (pt_Ml5 ++ pt_Ml6)))))
theorem pt_Ml_ok : ∀ q ∈ pt_Ml, pt_Mp q := List.forall_mem_append.mpr ⟨pt_Ml0_ok, List.forall_mem_append.mpr ⟨pt_Ml1_ok, List.forall_mem_append.mpr ⟨pt_Ml2_ok, List.forall_mem_append.mpr ⟨pt_Ml3_ok, List.forall_mem_append.mpr ⟨pt_Ml4_ok, List.forall_mem_append.mpr ⟨pt_Ml5_ok, pt_Ml6_ok⟩⟩⟩⟩⟩⟩
def pt_M (o ix : Nat) : Option (Nat × Nat) := (pt_Ml.find? (fun q => q.1 == o && q.2.1 == ix)).map (fun q => q.2.2)
theorem pt_M_ok {o ix : Nat} {q : Nat × Nat} (h : pt_M o ix = some q) : pt_Mp (o, ix, q) := by
  unfold pt_M at h
  cases hf : pt_Ml.find? (fun q => q.1 == o && q.2.1 == ix) with
  | none => rw [hf] at h; cases h
  | some z =>
    rw [hf] at h
    cases h
    have h1 := List.find?_some hf
    have h2 := pt_Ml_ok z (List.mem_of_find?_eq_some hf)
    obtain ⟨a, b, c⟩ := z
    simp only [Bool.and_eq_true, beq_iff_eq] at h1
    obtain ⟨rfl, rfl⟩ := h1
    exact h2
theorem pt_M_0_28 : pt_M 0 28 = some (0, 1) := rfl
theorem pt_M_0_32 : pt_M 0 32 = some (0, 51) := rfl
theorem pt_M_0_38 : pt_M 0 38 = some (0, 4) := rfl
theorem pt_M_0_46 : pt_M 0 46 = some (0, 46) := rfl
theorem pt_M_0_59 : pt_M 0 59 = some (0, 52) := rfl
theorem pt_M_0_63 : pt_M 0 63 = some (0, 48) := rfl
theorem pt_M_0_66 : pt_M 0 66 = some (0, 50) := rfl
theorem pt_M_0_70 : pt_M 0 70 = some (0, 2) := rfl
theorem pt_M_0_80 : pt_M 0 80 = some (0, 5) := rfl
theorem pt_M_0_86 : pt_M 0 86 = some (0, 6) := rfl
theorem pt_M_0_92 : pt_M 0 92 = some (1, 167) := rfl
theorem pt_M_0_101 : pt_M 0 101 = some (0, 3) := rfl
theorem pt_M_1_23 : pt_M 1 23 = some (0, 10) := rfl
theorem pt_M_1_26 : pt_M 1 26 = some (0, 44) := rfl
theorem pt_M_1_31 : pt_M 1 31 = some (0, 45) := rfl
theorem pt_M_2_15 : pt_M 2 15 = some (0, 29) := rfl
theorem pt_M_2_30 : pt_M 2 30 = some (0, 13) := rfl
theorem pt_M_2_36 : pt_M 2 36 = some (0, 15) := rfl
theorem pt_M_2_40 : pt_M 2 40 = some (0, 17) := rfl
theorem pt_M_2_44 : pt_M 2 44 = some (0, 21) := rfl
theorem pt_M_2_48 : pt_M 2 48 = some (0, 23) := rfl
theorem pt_M_2_52 : pt_M 2 52 = some (0, 24) := rfl
theorem pt_M_2_60 : pt_M 2 60 = some (0, 16) := rfl
theorem pt_M_2_66 : pt_M 2 66 = some (0, 18) := rfl
theorem pt_M_2_71 : pt_M 2 71 = some (0, 19) := rfl
theorem pt_M_2_81 : pt_M 2 81 = some (0, 20) := rfl
theorem pt_M_2_87 : pt_M 2 87 = some (0, 22) := rfl
theorem pt_M_2_105 : pt_M 2 105 = some (0, 25) := rfl
theorem pt_M_2_114 : pt_M 2 114 = some (0, 26) := rfl
theorem pt_M_2_121 : pt_M 2 121 = some (0, 30) := rfl
theorem pt_M_2_124 : pt_M 2 124 = some (0, 32) := rfl
theorem pt_M_2_128 : pt_M 2 128 = some (0, 34) := rfl
theorem pt_M_2_131 : pt_M 2 131 = some (0, 35) := rfl
theorem pt_M_2_134 : pt_M 2 134 = some (0, 37) := rfl
theorem pt_M_2_138 : pt_M 2 138 = some (0, 38) := rfl
theorem pt_M_2_141 : pt_M 2 141 = some (2, 58) := rfl
theorem pt_M_2_144 : pt_M 2 144 = some (2, 59) := rfl
theorem pt_M_2_147 : pt_M 2 147 = some (0, 39) := rfl
theorem pt_M_2_154 : pt_M 2 154 = some (3, 900) := rfl
theorem pt_M_2_162 : pt_M 2 162 = some (4, 901) := rfl
theorem pt_M_2_166 : pt_M 2 166 = some (1, 165) := rfl
theorem pt_M_2_172 : pt_M 2 172 = some (0, 14) := rfl
theorem pt_M_4_39 : pt_M 4 39 = some (0, 29) := rfl
theorem pt_M_4_52 : pt_M 4 52 = some (0, 31) := rfl
theorem pt_M_4_56 : pt_M 4 56 = some (0, 33) := rfl
theorem pt_M_4_59 : pt_M 4 59 = some (1, 166) := rfl
theorem pt_M_4_66 : pt_M 4 66 = some (0, 36) := rfl
theorem pt_M_4_70 : pt_M 4 70 = some (1, 165) := rfl
theorem pt_M_4_73 : pt_M 4 73 = some (0, 41) := rfl
theorem pt_M_4_76 : pt_M 4 76 = some (1, 47) := rfl
theorem pt_M_4_79 : pt_M 4 79 = some (0, 40) := rfl
theorem pt_M_4_84 : pt_M 4 84 = some (0, 53) := rfl
theorem pt_M_4_88 : pt_M 4 88 = some (0, 54) := rfl
theorem pt_M_4_91 : pt_M 4 91 = some (0, 43) := rfl
theorem pt_M_4_94 : pt_M 4 94 = some (0, 49) := rfl
theorem pt_M_5_53 : pt_M 5 53 = some (0, 27) := rfl
theorem pt_M_5_57 : pt_M 5 57 = some (0, 28) := rfl
theorem pt_M_5_64 : pt_M 5 64 = some (0, 12) := rfl
theorem pt_M_5_81 : pt_M 5 81 = some (0, 31) := rfl
theorem pt_M_5_85 : pt_M 5 85 = some (0, 36) := rfl
theorem pt_M_5_89 : pt_M 5 89 = some (0, 33) := rfl
theorem pt_M_5_92 : pt_M 5 92 = some (1, 63) := rfl
theorem pt_M_5_96 : pt_M 5 96 = some (0, 40) := rfl
theorem pt_M_5_99 : pt_M 5 99 = some (1, 69) := rfl
theorem pt_M_5_127 : pt_M 5 127 = some (0, 42) := rfl
theorem pt_M_5_142 : pt_M 5 142 = some (0, 43) := rfl
theorem pt_M_5_145 : pt_M 5 145 = some (1, 75) := rfl
theorem pt_M_5_149 : pt_M 5 149 = some (0, 46) := rfl
theorem pt_M_5_155 : pt_M 5 155 = some (0, 48) := rfl
theorem pt_M_5_159 : pt_M 5 159 = some (0, 50) := rfl
theorem pt_M_5_163 : pt_M 5 163 = some (0, 51) := rfl
theorem pt_M_5_166 : pt_M 5 166 = some (0, 52) := rfl
theorem pt_M_5_171 : pt_M 5 171 = some (0, 0) := rfl
theorem pt_M_5_175 : pt_M 5 175 = some (0, 6) := rfl
theorem pt_M_5_179 : pt_M 5 179 = some (0, 7) := rfl
theorem pt_M_5_195 : pt_M 5 195 = some (0, 80) := rfl
theorem pt_M_5_199 : pt_M 5 199 = some (0, 8) := rfl
theorem pt_M_5_202 : pt_M 5 202 = some (1, 71) := rfl
theorem pt_M_5_205 : pt_M 5 205 = some (0, 84) := rfl
theorem pt_M_5_209 : pt_M 5 209 = some (0, 30) := rfl
theorem pt_M_5_212 : pt_M 5 212 = some (0, 32) := rfl
theorem pt_M_5_215 : pt_M 5 215 = some (0, 37) := rfl
theorem pt_M_5_219 : pt_M 5 219 = some (0, 44) := rfl
theorem pt_M_5_222 : pt_M 5 222 = some (0, 34) := rfl
theorem pt_M_5_225 : pt_M 5 225 = some (0, 35) := rfl
theorem pt_M_5_228 : pt_M 5 228 = some (0, 9) := rfl
theorem pt_M_5_231 : pt_M 5 231 = some (1, 58) := rfl
theorem pt_M_5_234 : pt_M 5 234 = some (1, 59) := rfl
theorem pt_M_5_237 : pt_M 5 237 = some (0, 38) := rfl
theorem pt_M_5_240 : pt_M 5 240 = some (0, 39) := rfl
theorem pt_M_5_246 : pt_M 5 246 = some (0, 11) := rfl
theorem pt_M_5_252 : pt_M 5 252 = some (0, 1) := rfl
theorem pt_M_5_256 : pt_M 5 256 = some (0, 4) := rfl
theorem pt_M_6_14 : pt_M 6 14 = some (0, 88) := rfl
theorem pt_M_6_30 : pt_M 6 30 = some (1, 93) := rfl
theorem pt_M_6_34 : pt_M 6 34 = some (1, 94) := rfl
theorem pt_M_6_44 : pt_M 6 44 = some (0, 95) := rfl
theorem pt_M_6_54 : pt_M 6 54 = some (1, 100) := rfl
theorem pt_M_6_60 : pt_M 6 60 = some (1, 99) := rfl
theorem pt_M_6_64 : pt_M 6 64 = some (0, 101) := rfl
theorem pt_M_6_68 : pt_M 6 68 = some (1, 108) := rfl
theorem pt_M_6_103 : pt_M 6 103 = some (1, 90) := rfl
theorem pt_M_6_107 : pt_M 6 107 = some (0, 102) := rfl
theorem pt_M_6_110 : pt_M 6 110 = some (1, 96) := rfl
theorem pt_M_6_114 : pt_M 6 114 = some (0, 92) := rfl
theorem pt_M_6_118 : pt_M 6 118 = some (0, 103) := rfl
theorem pt_M_6_123 : pt_M 6 123 = some (0, 105) := rfl
theorem pt_M_6_127 : pt_M 6 127 = some (1, 106) := rfl
theorem pt_M_6_131 : pt_M 6 131 = some (0, 107) := rfl
theorem pt_M_6_134 : pt_M 6 134 = some (1, 112) := rfl
theorem pt_M_6_137 : pt_M 6 137 = some (1, 115) := rfl
theorem pt_M_6_141 : pt_M 6 141 = some (1, 111) := rfl
theorem pt_M_6_145 : pt_M 6 145 = some (1, 113) := rfl
theorem pt_M_6_148 : pt_M 6 148 = some (1, 114) := rfl
theorem pt_M_6_151 : pt_M 6 151 = some (0, 110) := rfl
theorem pt_M_6_154 : pt_M 6 154 = some (0, 116) := rfl
theorem pt_M_6_157 : pt_M 6 157 = some (0, 98) := rfl
theorem pt_M_6_160 : pt_M 6 160 = some (0, 104) := rfl
theorem pt_M_6_163 : pt_M 6 163 = some (0, 109) := rfl
theorem pt_M_6_166 : pt_M 6 166 = some (0, 97) := rfl
theorem pt_M_6_169 : pt_M 6 169 = some (0, 117) := rfl
theorem pt_M_6_175 : pt_M 6 175 = some (0, 123) := rfl
theorem pt_M_6_179 : pt_M 6 179 = some (0, 131) := rfl
theorem pt_M_6_182 : pt_M 6 182 = some (1, 121) := rfl
theorem pt_M_6_185 : pt_M 6 185 = some (0, 122) := rfl
theorem pt_M_6_188 : pt_M 6 188 = some (1, 125) := rfl
theorem pt_M_6_191 : pt_M 6 191 = some (0, 126) := rfl
theorem pt_M_6_195 : pt_M 6 195 = some (0, 129) := rfl
theorem pt_M_6_198 : pt_M 6 198 = some (0, 130) := rfl
theorem pt_M_6_201 : pt_M 6 201 = some (0, 140) := rfl
theorem pt_M_6_204 : pt_M 6 204 = some (0, 137) := rfl
theorem pt_M_6_208 : pt_M 6 208 = some (0, 139) := rfl
theorem pt_M_6_212 : pt_M 6 212 = some (0, 141) := rfl
theorem pt_M_6_217 : pt_M 6 217 = some (1, 133) := rfl
theorem pt_M_6_221 : pt_M 6 221 = some (0, 134) := rfl
theorem pt_M_6_224 : pt_M 6 224 = some (0, 136) := rfl
theorem pt_M_6_227 : pt_M 6 227 = some (0, 138) := rfl
theorem pt_M_6_233 : pt_M 6 233 = some (0, 145) := rfl
theorem pt_M_6_248 : pt_M 6 248 = some (0, 146) := rfl
theorem pt_M_6_255 : pt_M 6 255 = some (0, 144) := rfl
theorem pt_M_6_259 : pt_M 6 259 = some (1, 147) := rfl
theorem pt_M_6_263 : pt_M 6 263 = some (0, 143) := rfl
theorem pt_M_6_267 : pt_M 6 267 = some (1, 151) := rfl
theorem pt_M_6_270 : pt_M 6 270 = some (0, 153) := rfl
theorem pt_M_6_274 : pt_M 6 274 = some (0, 156) := rfl
theorem pt_M_6_277 : pt_M 6 277 = some (0, 157) := rfl
theorem pt_M_6_280 : pt_M 6 280 = some (0, 159) := rfl
theorem pt_M_6_284 : pt_M 6 284 = some (0, 162) := rfl
end
section
/-! THE CELLS: soundness of field and array instructions, of calls, and of whole runs -/
theorem pm_ofW {l : Launch} {y : MethodName} {ws ws' : List Cond} {rm : Room} {Pc : Array Value → State → Prop} {Qc : Array Value → State → Outcome → State → Prop} {mc ms : Nat} {free : Addr → Prop} {cc : ByteArray} {maxL : Nat} {ret : Option FieldType}
    (hy : plainFor y = true) (hw : ws = Cond.code y cc maxL ret :: ws')
    (body : ∀ p e s m args below meth c s₁, BodyLoose p l y (headSpec ws rm) cc maxL ret e s m args below meth c s₁ → c.maxLocals = maxL → Pc args s →
      W p l e (headSpec ws rm).room s m args below meth c s.heap [] 0 0 (MQ below Qc args s mc ms free) (entryFrame m args maxL)) : Met l y ws rm Pc Qc mc ms free := by
  refine MetFree.of_bodySF (code := cc) (maxLocals := maxL) (ret := ret) hy ?_ ?_
  · intro args s m h hn
    obtain ⟨meth, c, h1, h2, h3, h4, h5, h6, -, -⟩ := Cond.code_spec hn (atoms_spec (ws := ws) h _ (by rw [hw]; exact List.mem_cons_self))
    exact ⟨meth, c, h1, h2, h3, h4, h5, h6⟩
  · intro p e s m args below meth c s₁ B hml hP _
    have hh0 : s₁.heap = s.heap := by rw [B.state]; rfl
    obtain ⟨t, a1, o, b1, b2, b3⟩ := body p e s m args below meth c s₁ B hml hP s₁ hh0 (Stand.of_body B)
    exact ⟨t, o, a1, b1, b2, ⟨b3.1, b3.2⟩⟩
theorem pm_Sim.set {ρ : Nat → Nat} {τ : Nat → ClassId} {D : va_G} {sz : Nat} {w : pm_H} {H H1 : Heap} {a : Nat} {e0 e : va_E} (h : pm_Sim ρ τ D sz w H) (ha : w a = some e0) (he : va_at D vwCl (ρ a, pm_cv ρ τ e) H1) (oq : ∀ q : Nat, q ≠ ρ a → H1[q]? = H[q]?) : pm_Sim ρ τ D sz (pm_up w a e) H1 := by
  have key : ∀ (k : Nat) (f : va_E), pm_up w a e k = some f → ∃ g, w k = some g := by
    intro k f hk
    unfold pm_up at hk
    split at hk
    · rename_i hka; subst hka; exact ⟨_, ha⟩
    · exact ⟨_, hk⟩
  refine ⟨fun k f hk => ?_, fun k j f g hk hj hkj => ?_⟩
  · by_cases hka : k = a
    · subst hka
      simp only [pm_up, if_true] at hk
      cases hk
      exact ⟨he, (h.1 k e0 ha).2⟩
    · simp only [pm_up, if_neg hka] at hk
      obtain ⟨h1, h2⟩ := h.1 k f hk
      exact ⟨h1.kept (oq _ (fun z => hka (h.2 k a f e0 hk ha z))), h2⟩
  · obtain ⟨f', hf⟩ := key k f hk
    obtain ⟨g', hg⟩ := key j g hj
    exact h.2 k j f' g' hf hg hkj
def pm_tys (τ : Nat → ClassId) : List (ClassId × FieldType) := [(τ 0, .int), (τ 1, .long), (τ 2, .byte)]
/-- what the tables and the String constants say of a state -/
def pm_Kn (ρ : Nat → Nat) (τ : Nat → ClassId) (D : va_G) (sz : Nat) (aV : Nat → Nat) (U : State) (H : Heap) : Prop :=
  va_K D vwCl (pm_tys τ) U ∧ (∀ q ∈ pt_Nl, va_Nw (.methodLinkNest (pt_cn q.1) q.2.1 (pt_y q.2.2.2) RX5) U) ∧ (∀ j, j < pt_sx.length → vk_R RX2 (pt_sx.getD j (0, "")).1 (pt_sx.getD j (0, "")).2 (ρ (1000 + j)) U) ∧ vk_S pt_sx.length pt_sn pt_sb (fun j => ρ (1000 + j)) aV (fun q => sz ≤ q) U H
theorem pm_Kn.warm {ρ : Nat → Nat} {τ : Nat → ClassId} {D : va_G} {sz : Nat} {aV : Nat → Nat} {s U : State} {H H1 : Heap} (hW : s.WarmedH U.vm) (hq : ∀ a : Nat, a < H.size → ¬ sz ≤ a → H1[a]? = H[a]?) (h : pm_Kn ρ τ D sz aV s H) : pm_Kn ρ τ D sz aV U H1 :=
  ⟨va_K.moved hW.alike h.1, fun q hq => va_Nw.warmM hW (h.2.1 q hq), fun j hj => vk_R.warm hW (h.2.2.1 j hj), (h.2.2.2.moved hW.alike).kept hq⟩
theorem pm_Kn.same {ρ : Nat → Nat} {τ : Nat → ClassId} {D : va_G} {sz : Nat} {aV : Nat → Nat} {s U : State} {H : Heap} (hv : s.vm = U.vm) (h : pm_Kn ρ τ D sz aV s H) : pm_Kn ρ τ D sz aV U H :=
  ⟨va_K.moved (by rw [hv]; exact Vm.Alike.refl _) h.1, fun q hq => va_Nw.same rfl hv (h.2.1 q hq), fun j hj => vk_R.same hv.symm (h.2.2.1 j hj), h.2.2.2.moved (by rw [hv]; exact Vm.Alike.refl _)⟩
section PMH
variable {p : Program} {l : Launch} {e : Env} {R : Room} {s : State} {m : MethodId} {args : Array Value} {below : List Frame} {meth : Method} {c : Code} {cells slots : Nat} {Q : State → Prop}
variable {ρ : Nat → Nat} {τ : Nat → ClassId} {D : va_G} {sz : Nat} {aV : Nat → Nat} {cc : ByteArray} {i : Instr} {len pc o : Nat} {pl : pm_L} {st : List Value} {w : pm_H} {cf : pm_C}
theorem pm_get (hx : p.tables.exec = Jvm.exec) (hb : c.code = cc) (hown : s.vm.findClass (pt_cn o) = some m.cls) (hts : ∀ w ∈ pm_tb, w.before args s = true) (hK : pm_Kn ρ τ D sz aV s s.heap) {ix a ci k t : Nat} {fin : Bool} {v : Value} {r : List Value} (hF : pt_F o ix = some (ci, k, t, fin)) (hg : pm_gf (w a) ci k = some v) (hd : decode cc pc = .ok (.getfield ix, 3))
    (kk : pm_K p l e R s m args below meth c cells slots Q ρ τ D sz (pc + 3, pl, v :: r, w)) : pm_K p l e R s m args below meth c cells slots Q ρ τ D sz (pc, pl, .ref a :: r, w) := by
  intro H locs ls hSim hS hl
  obtain ⟨C, T, N, ty, ⟨h1, h2, h3, h4⟩, hk, hlink, -, -⟩ := pt_F_ok hF
  unfold pm_gf at hg
  split at hg
  · rename_i cx fs hw
    split at hg
    · rename_i hc
      subst hc
      have hP : va_P D vwCl [(ρ a, pm_cv ρ τ (.inr (cx, fs)))] H := fun j q hj => by
        cases j with
        | zero => cases hj; exact (hSim.1 a _ hw).1
        | succ j => cases hj
      exact va_get (ref := (T k).1) hx hb hts h2 hown hK.1 hP 0 (fs := fs.map (pm_rn ρ)) rfl h1 k hk (hts _ hlink) (fun x h => h) (by rw [List.getElem?_map, hg]; rfl) hd (kk H locs ls hSim hS hl)
    · cases hg
  · cases hg
theorem pm_fit {ρ : Nat → Nat} {ty : FieldType} {v : Value} (h : pm_vk v = pm_tk ty) : narrow ty (pm_rn ρ v) = pm_rn ρ v ∧ fits ty (pm_rn ρ v) = true := by
  cases v <;> cases ty <;> first | (cases h; done) | exact ⟨rfl, rfl⟩
theorem pm_put (hx : p.tables.exec = Jvm.exec) (hb : c.code = cc) (hown : s.vm.findClass (pt_cn o) = some m.cls) (hts : ∀ w ∈ pm_tb, w.before args s = true) (hK : pm_Kn ρ τ D sz aV s s.heap) {ix a ci k t : Nat} {v : Value} {r : List Value} {w' : pm_H} (hF : pt_F o ix = some (ci, k, t, false)) (hg : pm_pf w a (w a) ci k t v = some w') (hd : decode cc pc = .ok (.putfield ix, 3))
    (kk : pm_K p l e R s m args below meth c cells slots Q ρ τ D sz (pc + 3, pl, r, w')) : pm_K p l e R s m args below meth c cells slots Q ρ τ D sz (pc, pl, v :: .ref a :: r, w) := by
  intro H locs ls hSim hS hl
  obtain ⟨C, T, N, ty0, ⟨hc, h2, h3, h4⟩, hk, hlink, hfin, htk⟩ := pt_F_ok hF
  dsimp only at hc hk hlink hfin htk
  unfold pm_pf at hg
  split at hg
  · rename_i cx fs hw
    split at hg
    · rename_i hcc
      obtain ⟨hcx, hkl, hvt⟩ := hcc
      subst hcx
      cases hg
      obtain ⟨hn, hfit⟩ := pm_fit (ρ := ρ) (ty := ty0 k) (v := v) (hvt.trans htk.symm)
      have hap := va_apart (own := C) hts h2 ty0 h3 h4 hK.1 hc
      obtain ⟨⟨rr, hr1, cell, q1, q2, q3, q4⟩, hsz⟩ := hSim.1 a _ hw
      have hr : rr = (C, T, N) := Option.some.inj (hr1.symm.trans hc)
      subst hr
      obtain ⟨hSl, hfc, kC, hkC, hkind⟩ := hK.1.1 cx _ hc
      obtain ⟨cf, kf, fi, f, hi, hsl⟩ := hSl k hk
      have hlay := hts _ (h2 _ (u_in_lay hk))
      unfold u_lay at hlay
      rw [if_neg (by rw [hfin]; decide)] at hlay
      have hst := (u_facts hfc hkC (u_lays hts h2 hk) hi).1
      have h6 := u_store hfc hkC hkind hlay hi (h3 k hk) hn hfit
      refine W.putK hx hb (f := f) ⟨hown, hts _ hlink, ⟨_, _, _, hi⟩, hst⟩ (by rw [q2]; exact h6) q1 q3 (by rw [hsl]; exact k2_hasslot (q4 k hk)) rfl rfl hd fun H' e1 e2 e3 => ?_
      rw [hsl] at e1 ⊢
      refine kk H' _ ls (hSim.set hw ⟨_, hc, t_OB.to (V := updV (vp_V (fs.map (pm_rn ρ))) k (pm_rn ρ v)) ⟨_, e1, q2, q3, t_set q4 hap hk _⟩ (fun j _ => ?_)⟩ e3) (hS.put e2 e3 hsz) hl
      rw [vp_updV_set (by rw [List.length_map]; exact hkl), List.map_set]
    · cases hg
  · cases hg
theorem pm_iald (hx : p.tables.exec = Jvm.exec) (hb : c.code = cc) (hK : pm_Kn ρ τ D sz aV s s.heap) {a : Nat} {i : Int32} {v : Value} {r : List Value} (hg : pm_ia (w a) 0 i = some v) (hd : decode cc pc = .ok (.iaload, 1))
    (kk : pm_K p l e R s m args below meth c cells slots Q ρ τ D sz (pc + 1, pl, v :: r, w)) : pm_K p l e R s m args below meth c cells slots Q ρ τ D sz (pc, pl, .int i :: .ref a :: r, w) := by
  intro H locs ls hSim hS hl
  unfold pm_ia at hg
  split at hg
  · rename_i ty n f hw
    split at hg
    · rename_i ht
      subst ht
      split at hg
      · cases hg
      · rename_i hin
        cases hg
        have hP : va_P D vwCl [(ρ a, pm_cv ρ τ (.inl (0, n, .inl f)))] H := fun j q hj => by
          cases j with
          | zero => cases hj; exact (hSim.1 a _ hw).1
          | succ j => cases hj
        exact va_iald hx hb hK.1 hP 0 0 rfl rfl hin hd (kk H locs ls hSim hS hl)
    · cases hg
  · cases hg
theorem pm_bald (hx : p.tables.exec = Jvm.exec) (hb : c.code = cc) (hK : pm_Kn ρ τ D sz aV s s.heap) {a : Nat} {i : Int32} {v : Value} {r : List Value} (hg : pm_ia (w a) 2 i = some v) (hd : decode cc pc = .ok (.baload, 1))
    (kk : pm_K p l e R s m args below meth c cells slots Q ρ τ D sz (pc + 1, pl, v :: r, w)) : pm_K p l e R s m args below meth c cells slots Q ρ τ D sz (pc, pl, .int i :: .ref a :: r, w) := by
  intro H locs ls hSim hS hl
  unfold pm_ia at hg
  split at hg
  · rename_i ty n f hw
    split at hg
    · rename_i ht
      subst ht
      split at hg
      · cases hg
      · rename_i hin
        cases hg
        have hP : va_P D vwCl [(ρ a, pm_cv ρ τ (.inl (2, n, .inl f)))] H := fun j q hj => by
          cases j with
          | zero => cases hj; exact (hSim.1 a _ hw).1
          | succ j => cases hj
        exact va_bald hx hb hK.1 hP 0 2 rfl rfl hin hd (kk H locs ls hSim hS hl)
    · cases hg
  · cases hg
theorem pm_lald (hx : p.tables.exec = Jvm.exec) (hb : c.code = cc) (hK : pm_Kn ρ τ D sz aV s s.heap) {a : Nat} {i : Int32} {v : Value} {r : List Value} (hg : pm_la (w a) i = some v) (hd : decode cc pc = .ok (.laload, 1))
    (kk : pm_K p l e R s m args below meth c cells slots Q ρ τ D sz (pc + 1, pl, v :: r, w)) : pm_K p l e R s m args below meth c cells slots Q ρ τ D sz (pc, pl, .int i :: .ref a :: r, w) := by
  intro H locs ls hSim hS hl
  unfold pm_la at hg
  split at hg
  · rename_i ty n f hw
    split at hg
    · rename_i ht
      subst ht
      split at hg
      · cases hg
      · rename_i hin
        cases hg
        have hP : va_P D vwCl [(ρ a, pm_cv ρ τ (.inl (1, n, .inr (.inl f))))] H := fun j q hj => by
          cases j with
          | zero => cases hj; exact (hSim.1 a _ hw).1
          | succ j => cases hj
        exact va_lald hx hb hK.1 hP 0 1 rfl rfl hin hd (kk H locs ls hSim hS hl)
    · cases hg
  · cases hg
theorem pm_iast (hx : p.tables.exec = Jvm.exec) (hb : c.code = cc) (hK : pm_Kn ρ τ D sz aV s s.heap) {a : Nat} {i x : Int32} {r : List Value} {w' : pm_H} (hg : pm_is w a (w a) i x = some w') (hd : decode cc pc = .ok (.iastore, 1))
    (kk : pm_K p l e R s m args below meth c cells slots Q ρ τ D sz (pc + 1, pl, r, w')) : pm_K p l e R s m args below meth c cells slots Q ρ τ D sz (pc, pl, .int x :: .int i :: .ref a :: r, w) := by
  intro H locs ls hSim hS hl
  unfold pm_is at hg
  split at hg
  · rename_i ty n f hw
    split at hg
    · rename_i ht
      subst ht
      split at hg
      · cases hg
      · rename_i hin
        cases hg
        obtain ⟨hat, hsz⟩ := hSim.1 a _ hw
        refine W.iast hx hb hat ((hK.1.2 0 _ rfl).1 n (fun j => .int (f j))) (fun q => by cases q) (by show ¬ (i < 0 ∨ (arrV _ _ _).slots.size ≤ _); rw [arrV_size]; exact hin) rfl rfl hd fun H1 e1 z oq => ?_
        refine kk H1 _ ls (hSim.set hw ?_ oq) (hS.put z oq hsz) hl
        show H1[ρ a]? = some (vp_cell _ _)
        rw [e1]
        rw [vp_cell_i, vp_cell_i, arrV_store]
        congr 2
        funext q
        by_cases hq : q = i.toNatClampNeg
        · subst hq
          simp [updV, upd]
        · simp [updV, upd, hq]
    · cases hg
  · cases hg
theorem pm_bast (hx : p.tables.exec = Jvm.exec) (hb : c.code = cc) (hK : pm_Kn ρ τ D sz aV s s.heap) {a : Nat} {i x : Int32} {r : List Value} {w' : pm_H} (hg : pm_bs w a (w a) i x = some w') (hd : decode cc pc = .ok (.bastore, 1))
    (kk : pm_K p l e R s m args below meth c cells slots Q ρ τ D sz (pc + 1, pl, r, w')) : pm_K p l e R s m args below meth c cells slots Q ρ τ D sz (pc, pl, .int x :: .int i :: .ref a :: r, w) := by
  intro H locs ls hSim hS hl
  unfold pm_bs at hg
  split at hg
  · rename_i ty n f hw
    split at hg
    · rename_i ht
      subst ht
      split at hg
      · cases hg
      · rename_i hin
        cases hg
        obtain ⟨hat, hsz⟩ := hSim.1 a _ hw
        refine W.bast hx hb hat ((hK.1.2 2 _ rfl).1 n (fun j => .int (f j))) (fun q => by cases q) (by show ¬ (i < 0 ∨ (arrV _ _ _).slots.size ≤ _); rw [arrV_size]; exact hin) rfl rfl hd fun H1 e1 z oq => ?_
        refine kk H1 _ ls (hSim.set hw ?_ oq) (hS.put z oq hsz) hl
        show H1[ρ a]? = some (vp_cell _ _)
        rw [e1]
        rw [vp_cell_i, vp_cell_i, arrV_store]
        congr 2
        funext q
        by_cases hq : q = i.toNatClampNeg
        · subst hq
          simp [updV, upd, vp_nar]
          try rfl
        · simp [updV, upd, hq]
    · cases hg
  · cases hg
theorem pm_last (hx : p.tables.exec = Jvm.exec) (hb : c.code = cc) (hK : pm_Kn ρ τ D sz aV s s.heap) {a : Nat} {i : Int32} {x : Int64} {r : List Value} {w' : pm_H} (hg : pm_ls w a (w a) i x = some w') (hd : decode cc pc = .ok (.lastore, 1))
    (kk : pm_K p l e R s m args below meth c cells slots Q ρ τ D sz (pc + 1, pl, r, w')) : pm_K p l e R s m args below meth c cells slots Q ρ τ D sz (pc, pl, .long x :: .int i :: .ref a :: r, w) := by
  intro H locs ls hSim hS hl
  unfold pm_ls at hg
  split at hg
  · rename_i ty n f hw
    split at hg
    · rename_i ht
      subst ht
      split at hg
      · cases hg
      · rename_i hin
        cases hg
        obtain ⟨hat, hsz⟩ := hSim.1 a _ hw
        refine W.last hx hb hat ((hK.1.2 1 _ rfl).1 n (fun j => .long (f j))) (fun q => by cases q) (by show ¬ (i < 0 ∨ (arrV _ _ _).slots.size ≤ _); rw [arrV_size]; exact hin) rfl rfl hd fun H1 e1 z oq => ?_
        refine kk H1 _ ls (hSim.set hw ?_ oq) (hS.put z oq hsz) hl
        show H1[ρ a]? = some (vp_cell _ _)
        rw [e1]
        rw [vp_cell_l, vp_cell_l, arrV_store]
        congr 2
        funext q
        by_cases hq : q = i.toNatClampNeg
        · subst hq
          simp [updV, vp_updL]
        · simp [updV, vp_updL, hq]
    · cases hg
  · cases hg
theorem pm_sH_ok (hx : p.tables.exec = Jvm.exec) (hb : c.code = cc) (hown : s.vm.findClass (pt_cn o) = some m.cls) (hts : ∀ w ∈ pm_tb, w.before args s = true) (hK : pm_Kn ρ τ D sz aV s s.heap) (hd : decode cc pc = .ok (i, len)) (hs : pm_sH (pt_F o) (pt_K o) i len pc pl st w = some cf) (k : pm_K p l e R s m args below meth c cells slots Q ρ τ D sz cf) : pm_K p l e R s m args below meth c cells slots Q ρ τ D sz (pc, pl, st, w) := by
  unfold pm_sH at hs
  split at hs
  · split at hs
    · rename_i hn; subst hn
      split at hs
      · rename_i hF
        split at hs
        · rename_i v hg; cases hs; exact pm_get hx hb hown hts hK hF hg hd k
        · cases hs
      · cases hs
    · cases hs
  · split at hs
    · rename_i hn; subst hn
      split at hs
      · rename_i hF
        split at hs
        · rename_i v hg; cases hs; exact pm_put hx hb hown hts hK hF hg hd k
        · cases hs
      · cases hs
    · cases hs
  · split at hs
    · rename_i hn; subst hn
      split at hs
      · rename_i hg; cases hs; exact pm_iald hx hb hK hg hd k
      · cases hs
    · cases hs
  · split at hs
    · rename_i hn; subst hn
      split at hs
      · rename_i hg; cases hs; exact pm_bald hx hb hK hg hd k
      · cases hs
    · cases hs
  · split at hs
    · rename_i hn; subst hn
      split at hs
      · rename_i hg; cases hs; exact pm_lald hx hb hK hg hd k
      · cases hs
    · cases hs
  · split at hs
    · rename_i hn; subst hn
      split at hs
      · rename_i hg; cases hs; exact pm_iast hx hb hK hg hd k
      · cases hs
    · cases hs
  · split at hs
    · rename_i hn; subst hn
      split at hs
      · rename_i hg; cases hs; exact pm_bast hx hb hK hg hd k
      · cases hs
    · cases hs
  · split at hs
    · rename_i hn; subst hn
      split at hs
      · rename_i hg; cases hs; exact pm_last hx hb hK hg hd k
      · cases hs
    · cases hs
  · split at hs
    · rename_i hn; subst hn
      split at hs
      · rename_i v hv
        split at hs
        · cases hs
        · rename_i hk
          cases hs
          intro H locs ls hSim hS hl
          have k := k H locs ls hSim hS hl
          rcases pt_K_ok hv with h | ⟨ho, j, hj, h1, h2⟩
          · cases v with
            | int v => exact lv_ldc hx hb hown (hts _ h) hd k
            | long v => exact absurd rfl hk
            | float _ => exact h.elim
            | double _ => exact h.elim
            | null => exact h.elim
            | ref _ => exact h.elim
            | retAddr _ => exact h.elim
          · subst h2
            subst ho
            refine va_ldcS hx hb hown (hK.2.2.1 j hj) ?_ k
            rw [h1]
            exact hd
      · cases hs
    · cases hs
  · split at hs
    · rename_i hn; subst hn
      split at hs
      · rename_i v hv
        split at hs
        · rename_i hk
          cases hs
          intro H locs ls hSim hS hl
          have k := k H locs ls hSim hS hl
          rcases pt_K_ok hv with h | ⟨ho, j, hj, h1, h2⟩
          · cases v with
            | int v => exact lv_ldcw hx hb hown (hts _ h) hd k
            | long v => cases hk
            | float _ => exact h.elim
            | double _ => exact h.elim
            | null => exact h.elim
            | ref _ => exact h.elim
            | retAddr _ => exact h.elim
          · subst h2; cases hk
        · cases hs
      · cases hs
    · cases hs
  · split at hs
    · rename_i hn; subst hn
      split at hs
      · rename_i v hv
        split at hs
        · rename_i hk
          cases hs
          intro H locs ls hSim hS hl
          have k := k H locs ls hSim hS hl
          rcases pt_K_ok hv with h | ⟨ho, j, hj, h1, h2⟩
          · cases v with
            | int v => cases hk
            | long v => exact lv_ldc2 hx hb hown (hts _ h) hd k
            | float _ => exact h.elim
            | double _ => exact h.elim
            | null => exact h.elim
            | ref _ => exact h.elim
            | retAddr _ => exact h.elim
          · subst h2; cases hk
        · cases hs
      · cases hs
    · cases hs
  · cases hs
theorem pm_s_ok (hx : p.tables.exec = Jvm.exec) (hb : c.code = cc) (hown : s.vm.findClass (pt_cn o) = some m.cls) (hts : ∀ w ∈ pm_tb, w.before args s = true) (hK : pm_Kn ρ τ D sz aV s s.heap) (hd : decode cc pc = .ok (i, len)) (hs : pm_s (pt_F o) (pt_K o) i len pc pl st w = some cf) (k : pm_K p l e R s m args below meth c cells slots Q ρ τ D sz cf) : pm_K p l e R s m args below meth c cells slots Q ρ τ D sz (pc, pl, st, w) := by
  rcases pm_or_some hs with h | h
  · exact pm_sA_ok hx hb hd h k
  rcases pm_or_some h with h | h
  · exact pm_sB_ok hx hb hd h k
  rcases pm_or_some h with h | h
  · exact pm_sC_ok hx hb hd h k
  rcases pm_or_some h with h | h
  · exact pm_sD_ok hx hb hd h k
  rcases pm_or_some h with h | h
  · exact pm_sE_ok hx hb hd h k
  rcases pm_or_some h with h | h
  · exact pm_sF_ok hx hb hd h k
  rcases pm_or_some h with h | h
  · exact pm_sG_ok hx hb hd h k
  · exact pm_sH_ok hx hb hown hts hK hd h k
end PMH
end
section
/-! CALLS AND RUNS: a run is a function; what it answers, the machine does -/
def pm_ent (n : Nat) (av : List Value) : pm_L := (lg_sl av ++ List.replicate (n - (lg_sl av).length) Slot.unset).map (fun z => match z with
  | .val v => some v
  | _ => none)
theorem pm_lg_map (ρ : Nat → Nat) (av : List Value) : lg_sl (av.map (pm_rn ρ)) = (lg_sl av).map (fun z => match z with
  | .val v => Slot.val (pm_rn ρ v)
  | z => z) := by
  induction av with
  | nil => rfl
  | cons v t ih =>
    simp only [lg_sl, List.map_cons, List.flatMap_cons, List.map_append] at ih ⊢
    rw [ih, pm_cat]
    congr 1
    split <;> rfl
theorem pm_ent_lh (ρ : Nat → Nat) (av : List Value) {n : Nat} (h : (lg_sl av).length ≤ n) : pm_lh ρ ((lg_sl (av.map (pm_rn ρ)) ++ List.replicate (n - (lg_sl (av.map (pm_rn ρ))).length) Slot.unset).toArray) (pm_ent n av) := by
  have hlen : (lg_sl (av.map (pm_rn ρ))).length = (lg_sl av).length := by rw [pm_lg_map, List.length_map]
  have hh := lv_entry (av.map (pm_rn ρ)) (n := n) (by rw [hlen]; exact h)
  refine ⟨?_, hh.2.1, fun i v hv => ?_⟩
  · rw [hh.1]
    unfold pm_ent
    rw [List.length_map, List.length_append, List.length_replicate]
    omega
  · unfold pm_ent at hv
    rw [List.getElem?_map] at hv
    rw [hlen, pm_lg_map, List.getElem?_toArray]
    by_cases hi : i < (lg_sl av).length
    · rw [List.getElem?_append_left hi] at hv
      rw [List.getElem?_append_left (by rw [List.length_map]; exact hi), List.getElem?_map]
      cases hz : (lg_sl av)[i]? with
      | none => rw [hz] at hv; cases hv
      | some z =>
        rw [hz] at hv
        cases z <;> cases hv
        rfl
    · rw [List.getElem?_append_right (by omega)] at hv
      cases hz : (List.replicate (n - (lg_sl av).length) Slot.unset)[i - (lg_sl av).length]? with
      | none => rw [hz] at hv; cases hv
      | some z =>
        rw [hz] at hv
        have := List.eq_of_mem_replicate (List.mem_of_getElem? hz)
        subst this
        cases hv
/-- a return: the answer -/
def pm_fin (rt : Option FieldType) (i : Instr) (len : Nat) (st : List Value) : Option (Option Value) := match i, st, rt with
  | .ireturn, [.int v], some .int => if len = 1 then some (some (.int v)) else none
  | .ireturn, [.int v], some .boolean => if len = 1 ∧ (v = 0 ∨ v = 1) then some (some (.int v)) else none
  | .lreturn, [.long v], some .long => if len = 1 then some (some (.long v)) else none
  | .return_, [], none => if len = 1 then some none else none
  | _, _, _ => none
/-- a call: kind, method, its arguments with the receiver, what stays on the stack -/
def pm_cl (o : Nat) (i : Instr) (len : Nat) (st : List Value) : Option (Nat × Nat × List Value × List Value) := match i with
  | .invokevirtual ix => if len = 3 then (match pt_M o ix with
    | some (0, M) => some (0, M, (st.take (pt_n M + 1)).reverse, st.drop (pt_n M + 1))
    | some (3, M) => some (3, M, (st.take 1).reverse, st.drop 1)
    | some (4, M) => some (4, M, (st.take 2).reverse, st.drop 2)
    | _ => none) else none
  | .invokestatic ix => if len = 3 then (match pt_M o ix with
    | some (1, M) => some (1, M, (st.take (pt_n M)).reverse, st.drop (pt_n M))
    | some (2, M) => some (2, M, (st.take (pt_n M)).reverse, st.drop (pt_n M))
    | _ => none) else none
  | _ => none
/-- may be called: the room, the receiver, the number of arguments -/
def pm_may (M kd M' : Nat) (av rest : List Value) (w : pm_H) (nl : Nat) : Bool := decide (nl = pt_l M ∧ pt_f M' + 1 ≤ pt_f M ∧ 8 + (pt_l M' + 11) + pt_w M' ≤ pt_w M ∧ (rest.map fun v => v.category).sum ≤ 8 ∧ (lg_sl av).length ≤ pt_l M') && (match kd, av with
  | 0, .ref b :: as => decide (as.length = pt_n M') && (match w b with
    | some (.inr (ci, _)) => decide (ci = pt_o M')
    | _ => false)
  | 1, as => decide (as.length = pt_n M')
  | 2, as => decide (as.length = pt_n M')
  | _, _ => false)
/-- the String constants' own methods -/
def pm_sc (kd : Nat) (av : List Value) : Option Value := match kd, av with
  | 3, [.ref k] => if 1000 ≤ k ∧ k - 1000 < pt_sx.length then some (.int (Int32.ofNat (pt_sn.getD (k - 1000) 0))) else none
  | 4, [.ref k, .int j] => if 1000 ≤ k ∧ k - 1000 < pt_sx.length then (if j < 0 ∨ pt_sn.getD (k - 1000) 0 ≤ j.toNatClampNeg then none else some (.int ((pt_sb.getD (k - 1000) []).getD j.toNatClampNeg 0))) else none
  | _, _ => none
def pm_run : Nat → Nat → pm_C → Option (Option Value × pm_H)
  | 0, _, _ => none
  | n + 1, M, (pc, pl, st, w) => match decode (pt_b M) pc with
    | .error _ => none
    | .ok (i, len) => match pm_fin (pt_r M) i len st with
      | some r => some (r, w)
      | none => match pm_cl (pt_o M) i len st with
        | some (kd, M', av, rest) => if kd = 3 ∨ kd = 4 then (match pm_sc kd av with
            | some v => if pl.length = pt_l M ∧ pt_f M ≥ 6 ∧ pt_w M ≥ 200 ∧ (rest.map fun v => v.category).sum ≤ 8 then pm_run n M (pc + 3, pl, v :: rest, w) else none
            | none => none)
          else if pm_may M kd M' av rest w pl.length = true then (match pm_run n M' (0, pm_ent (pt_l M') av, [], w) with
            | some (r, w') => pm_run n M (pc + 3, pl, r.toList ++ rest, w')
            | none => none) else none
        | none => match pm_s (pt_F (pt_o M)) (pt_K (pt_o M)) i len pc pl st w with
          | some cf => pm_run n M cf
          | none => none
theorem pm_run_mono : ∀ (n M : Nat) (cf : pm_C) (x : Option Value × pm_H), pm_run n M cf = some x → pm_run (n + 1) M cf = some x := by
  intro n
  induction n with
  | zero => intro M cf x h; cases h
  | succ n ih =>
    intro M cf x h
    obtain ⟨pc, pl, st, w⟩ := cf
    rw [pm_run] at h ⊢
    split at h
    · cases h
    · rename_i i len hd
      try rw [hd]
      try dsimp only
      split at h
      · rename_i r hf
        try rw [hf]
        exact h
      · rename_i hf
        try rw [hf]
        try dsimp only
        split at h
        · rename_i kd M' av rest hc
          try rw [hc]
          try dsimp only
          split at h
          · rename_i hk
            try rw [if_pos hk]
            split at h
            · rename_i v hv
              try rw [hv]
              try dsimp only
              split at h
              · rename_i hr
                try rw [if_pos hr]
                exact ih M _ x h
              · cases h
            · cases h
          · rename_i hk
            try rw [if_neg hk]
            split at h
            · rename_i hm
              try rw [if_pos hm]
              split at h
              · rename_i r w' hr
                try rw [ih M' _ _ hr]
                exact ih M _ x h
              · cases h
            · cases h
        · rename_i hc
          try rw [hc]
          try dsimp only
          split at h
          · rename_i cf hs
            try rw [hs]
            exact ih M _ x h
          · cases h
theorem pm_run_le {n k M : Nat} {cf : pm_C} {x : Option Value × pm_H} (h : pm_run n M cf = some x) (hk : n ≤ k) : pm_run k M cf = some x := by
  induction hk with
  | refl => exact h
  | step _ ih => exact pm_run_mono _ M cf x ih
/-- what a run answers, however long it is -/
noncomputable def pm_evc (M : Nat) (cf : pm_C) : Option (Option Value × pm_H) := @dite _ (∃ n x, pm_run n M cf = some x) (Classical.propDecidable _) (fun h => some (Classical.choose (Classical.choose_spec h))) (fun _ => none)
theorem pm_evc_iff {M : Nat} {cf : pm_C} {x : Option Value × pm_H} : pm_evc M cf = some x ↔ ∃ n, pm_run n M cf = some x := by
  unfold pm_evc
  constructor
  · intro h
    split at h
    · rename_i hh
      cases h
      exact ⟨_, Classical.choose_spec (Classical.choose_spec hh)⟩
    · cases h
  · rintro ⟨n, h⟩
    have hh : ∃ n x, pm_run n M cf = some x := ⟨n, x, h⟩
    rw [dif_pos hh]
    have h2 := Classical.choose_spec (Classical.choose_spec hh)
    have h3 := pm_run_le h (Nat.le_max_left n (Classical.choose hh))
    have h4 := pm_run_le h2 (Nat.le_max_right n (Classical.choose hh))
    exact h4.symm.trans h3
theorem pm_evc_eq {M M2 : Nat} {a b : pm_C} (h1 : ∀ n x, pm_run n M a = some x → ∃ k, pm_run k M2 b = some x) (h2 : ∀ n x, pm_run n M2 b = some x → ∃ k, pm_run k M a = some x) : pm_evc M a = pm_evc M2 b := by
  cases hb : pm_evc M2 b with
  | some x =>
    obtain ⟨n, hn⟩ := pm_evc_iff.mp hb
    exact pm_evc_iff.mpr (h2 n x hn)
  | none =>
    cases ha : pm_evc M a with
    | none => rfl
    | some x =>
      obtain ⟨n, hn⟩ := pm_evc_iff.mp ha
      obtain ⟨k, hk⟩ := h1 n x hn
      rw [pm_evc_iff.mpr ⟨k, hk⟩] at hb
      cases hb
noncomputable def pm_ev (M pc : Nat) (pl : pm_L) (st : List Value) (w : pm_H) : Option (Option Value × pm_H) := pm_evc M (pc, pl, st, w)
/-- a method, called -/
noncomputable def pm_call (M : Nat) (av : List Value) (w : pm_H) : Option (Option Value × pm_H) := pm_ev M 0 (pm_ent (pt_l M) av) [] w
noncomputable def pm_k (M pc : Nat) (pl : pm_L) (st : List Value) (x : Option (Option Value × pm_H)) : Option (Option Value × pm_H) := match x with
  | some (r, w) => pm_ev M pc pl (r.toList ++ st) w
  | none => none
noncomputable def pm_kv (M pc : Nat) (pl : pm_L) (st : List Value) (w : pm_H) (x : Option Value) : Option (Option Value × pm_H) := match x with
  | some v => pm_ev M pc pl (v :: st) w
  | none => none
noncomputable def pm_kw (M pc : Nat) (pl : pm_L) (st : List Value) (x : Option pm_H) : Option (Option Value × pm_H) := match x with
  | some w => pm_ev M pc pl st w
  | none => none
theorem pm_k_some {M pc : Nat} {pl : pm_L} {st : List Value} {v : Value} {w : pm_H} : pm_k M pc pl st (some (some v, w)) = pm_ev M pc pl (v :: st) w := rfl
theorem pm_k_void {M pc : Nat} {pl : pm_L} {st : List Value} {w : pm_H} : pm_k M pc pl st (some (none, w)) = pm_ev M pc pl st w := rfl
theorem pm_kv_some {M pc : Nat} {pl : pm_L} {st : List Value} {v : Value} {w : pm_H} : pm_kv M pc pl st w (some v) = pm_ev M pc pl (v :: st) w := rfl
theorem pm_kw_some {M pc : Nat} {pl : pm_L} {st : List Value} {w : pm_H} : pm_kw M pc pl st (some w) = pm_ev M pc pl st w := rfl
theorem pm_ev_fin {M pc len : Nat} {pl : pm_L} {st : List Value} {w : pm_H} {i : Instr} {r : Option Value} (hd : decode (pt_b M) pc = .ok (i, len)) (hf : pm_fin (pt_r M) i len st = some r) : pm_ev M pc pl st w = some (r, w) := by
  refine pm_evc_iff.mpr ⟨1, ?_⟩
  rw [pm_run, hd]
  dsimp only
  rw [hf]
theorem pm_run_next {n M pc len : Nat} {pl : pm_L} {st : List Value} {w : pm_H} {i : Instr} {cf : pm_C} (hd : decode (pt_b M) pc = .ok (i, len)) (hf : pm_fin (pt_r M) i len st = none) (hc : pm_cl (pt_o M) i len st = none) (hs : pm_s (pt_F (pt_o M)) (pt_K (pt_o M)) i len pc pl st w = some cf) : pm_run (n + 1) M (pc, pl, st, w) = pm_run n M cf := by
  rw [pm_run, hd]
  dsimp only
  rw [hf]
  dsimp only
  rw [hc]
  dsimp only
  rw [hs]
theorem pm_ev_next {M pc len : Nat} {pl : pm_L} {st : List Value} {w : pm_H} {i : Instr} {cf : pm_C} (hd : decode (pt_b M) pc = .ok (i, len)) (hf : pm_fin (pt_r M) i len st = none) (hc : pm_cl (pt_o M) i len st = none) (hs : pm_s (pt_F (pt_o M)) (pt_K (pt_o M)) i len pc pl st w = some cf) : pm_ev M pc pl st w = pm_ev M cf.1 cf.2.1 cf.2.2.1 cf.2.2.2 := by
  refine pm_evc_eq (fun n x h => ?_) (fun n x h => ⟨n + 1, ?_⟩)
  · cases n with
    | zero => cases h
    | succ n => rw [pm_run_next hd hf hc hs] at h; exact ⟨n, h⟩
  · rw [pm_run_next hd hf hc hs]; exact h
theorem pm_ev_none {M pc len : Nat} {pl : pm_L} {st : List Value} {w : pm_H} {i : Instr} (hd : decode (pt_b M) pc = .ok (i, len)) (hf : pm_fin (pt_r M) i len st = none) (hc : pm_cl (pt_o M) i len st = none) (hs : pm_s (pt_F (pt_o M)) (pt_K (pt_o M)) i len pc pl st w = none) : pm_ev M pc pl st w = none := by
  cases h : pm_ev M pc pl st w with
  | none => rfl
  | some x =>
    obtain ⟨n, hn⟩ := pm_evc_iff.mp h
    cases n with
    | zero => cases hn
    | succ n =>
      rw [pm_run, hd] at hn
      dsimp only at hn
      rw [hf] at hn
      dsimp only at hn
      rw [hc] at hn
      dsimp only at hn
      rw [hs] at hn
      cases hn
theorem pm_ev_call {M pc len kd M' : Nat} {pl : pm_L} {st av rest : List Value} {w : pm_H} {i : Instr} (hd : decode (pt_b M) pc = .ok (i, len)) (hf : pm_fin (pt_r M) i len st = none) (hc : pm_cl (pt_o M) i len st = some (kd, M', av, rest)) (hk : ¬ (kd = 3 ∨ kd = 4)) (hm : pm_may M kd M' av rest w pl.length = true) : pm_ev M pc pl st w = pm_k M (pc + 3) pl rest (pm_call M' av w) := by
  have key : ∀ n, pm_run (n + 1) M (pc, pl, st, w) = (match pm_run n M' (0, pm_ent (pt_l M') av, [], w) with
            | some (r, w') => pm_run n M (pc + 3, pl, r.toList ++ rest, w')
            | none => none) := by
    intro n
    rw [pm_run, hd]
    dsimp only
    rw [hf]
    dsimp only
    rw [hc]
    dsimp only
    rw [if_neg hk, if_pos hm]
  cases h1 : pm_call M' av w with
  | none =>
    show pm_ev M pc pl st w = none
    cases h : pm_ev M pc pl st w with
    | none => rfl
    | some x =>
      obtain ⟨n, hn⟩ := pm_evc_iff.mp h
      cases n with
      | zero => cases hn
      | succ n =>
        rw [key] at hn
        split at hn
        · rename_i r w' hr
          have := pm_evc_iff.mpr ⟨n, hr⟩
          rw [show pm_evc M' (0, pm_ent (pt_l M') av, [], w) = pm_call M' av w from rfl, h1] at this
          cases this
        · cases hn
  | some q =>
    obtain ⟨r, w'⟩ := q
    obtain ⟨n0, hn0⟩ := pm_evc_iff.mp h1
    show pm_evc M (pc, pl, st, w) = pm_evc M (pc + 3, pl, r.toList ++ rest, w')
    refine pm_evc_eq (fun n x h => ?_) (fun n x h => ⟨max n n0 + 1, ?_⟩)
    · cases n with
      | zero => cases h
      | succ n =>
        rw [key] at h
        split at h
        · rename_i r2 w2 hr
          have h5 := pm_evc_iff.mpr ⟨n, hr⟩
          rw [pm_evc_iff.mpr ⟨n0, hn0⟩] at h5
          cases h5
          exact ⟨n, h⟩
        · cases h
    · rw [key, pm_run_le hn0 (Nat.le_max_right n n0)]
      exact pm_run_le h (Nat.le_max_left n n0)
theorem pm_ev_sc {M pc len kd M' : Nat} {pl : pm_L} {st av rest : List Value} {w : pm_H} {i : Instr} {v : Value} (hd : decode (pt_b M) pc = .ok (i, len)) (hf : pm_fin (pt_r M) i len st = none) (hc : pm_cl (pt_o M) i len st = some (kd, M', av, rest)) (hk : kd = 3 ∨ kd = 4) (hv : pm_sc kd av = some v) (hm : pl.length = pt_l M ∧ pt_f M ≥ 6 ∧ pt_w M ≥ 200 ∧ (rest.map fun v => v.category).sum ≤ 8) : pm_ev M pc pl st w = pm_ev M (pc + 3) pl (v :: rest) w := by
  have key : ∀ n, pm_run (n + 1) M (pc, pl, st, w) = pm_run n M (pc + 3, pl, v :: rest, w) := by
    intro n
    rw [pm_run, hd]
    dsimp only
    rw [hf]
    dsimp only
    rw [hc]
    dsimp only
    rw [if_pos hk, hv]
    dsimp only
    rw [if_pos hm]
  refine pm_evc_eq (fun n x h => ?_) (fun n x h => ⟨n + 1, ?_⟩)
  · cases n with
    | zero => cases h
    | succ n => rw [key] at h; exact ⟨n, h⟩
  · rw [key]; exact h
end
section
/-! WHAT A RUN ANSWERS, THE MACHINE DOES -/
def pm_ws (M : Nat) : List Cond := Cond.code (pt_y M) (pt_b M) (pt_l M) (pt_r M) :: pm_tb
def pm_rm (M : Nat) : Room := { frames := pt_f M, cells := 0, slots := 0, locals := pt_w M }
def pm_Pc (ρ : Nat → Nat) (τ : Nat → ClassId) (D : va_G) (sz : Nat) (aV : Nat → Nat) (av : List Value) (w : pm_H) : Array Value → State → Prop := va_Pc (av.map (pm_rn ρ)) (fun U => pm_Sim ρ τ D sz w U.heap ∧ pm_Kn ρ τ D sz aV U U.heap)
def pm_Qc (ρ : Nat → Nat) (τ : Nat → ClassId) (D : va_G) (sz : Nat) (r : Option Value) (w' : pm_H) : Array Value → State → Outcome → State → Prop := fun _ st oc t => (oc = .returned (r.map (pm_rn ρ)) ∧ pm_Sim ρ τ D sz w' t.heap) ∧ va_F (fun q => sz ≤ q) st t
def pm_Met (l : Launch) (ρ : Nat → Nat) (τ : Nat → ClassId) (D : va_G) (sz : Nat) (aV : Nat → Nat) (M : Nat) (av : List Value) (w : pm_H) (r : Option Value) (w' : pm_H) : Prop :=
  Met l (pt_y M) (pm_ws M) (pm_rm M) (pm_Pc ρ τ D sz aV av w) (pm_Qc ρ τ D sz r w') 0 0 (fun q => sz ≤ q)
theorem pm_good {M : Nat} (h : pt_Yp M) : GoodIn pm_tb (pm_ws M) := by
  intro w hw
  have h2 : w ∈ pm_tb := by
    rcases List.mem_cons.mp hw with e | e
    · rw [e]; exact h.1
    · exact e
  exact ⟨h2, good_of_word (List.mem_filter.mp h2).2⟩
theorem pm_blind {ρ : Nat → Nat} {τ : Nat → ClassId} {D : va_G} {sz : Nat} {aV : Nat → Nat} {av : List Value} {w : pm_H} : FrameBlind (pm_Pc ρ τ D sz aV av w) := by
  intro a U g mk h
  obtain ⟨h1, h2, h3⟩ := h
  exact ⟨h1, h2, pm_Kn.same (s := U) (U := U.calling g mk a) rfl h3⟩
section PMC
variable {p : Program} {l : Launch} {e : Env} {R : Room} {s : State} {m : MethodId} {args : Array Value} {below : List Frame} {meth : Method} {c : Code} {cells slots : Nat} {Q : State → Prop} {H : Heap} {locs : List Loc}
variable {ρ : Nat → Nat} {τ : Nat → ClassId} {D : va_G} {sz : Nat} {aV : Nat → Nat} {cc : ByteArray} {i : Instr} {len pc o : Nat} {pl : pm_L} {st : List Value} {w : pm_H} {cf : pm_C}
theorem pm_goon {r : Option Value} {w' : pm_H} {a : Array Value} {ls : Array Slot} {st0 rest : List Value} (hr : va_Run p l e R s m args below meth c H locs cells slots 0 0 (F0 m pc ls st0) rest (pm_Qc ρ τ D sz r w' a) (fun q => sz ≤ q)) (hS : va_S (fun q => sz ≤ q) s.heap H locs)
    (kk : ∀ (H1 : Heap) (locs1 : List Loc), pm_Sim ρ τ D sz w' H1 → va_S (fun q => sz ≤ q) s.heap H1 locs1 → W p l e R s m args below meth c H1 locs1 cells slots Q (F0 m (pc + 3) ls ((r.map (pm_rn ρ)).toList ++ rest))) : W p l e R s m args below meth c H locs cells slots Q (F0 m pc ls st0) := by
  intro T hT X
  obtain ⟨v, st₀, t, T', L, h0, X', hL, e1, e2, ⟨⟨hv, hsim⟩, hz, hk⟩, stp⟩ := hr T hT X
  cases hv
  rw [h0] at hz hk
  obtain ⟨t2, a1, b1⟩ := kk T'.heap (locs ++ L) (by rw [e1]; exact hsim) ⟨Nat.le_trans hS.1 (by rw [e1]; exact hz), fun q h1 h2 => by rw [e1, hk q (Nat.lt_of_lt_of_le h1 hS.1) h2]; exact hS.2.1 q h1 h2, fun q hq => by
      rcases List.mem_append.mp hq with h | h
      · exact hS.2.2 q h
      · exact hL q h⟩ T' rfl X'
  exact ⟨t2, stp t2 a1, b1⟩
theorem pm_sum (ρ : Nat → Nat) (rest : List Value) : ((rest.map (pm_rn ρ)).map fun v => v.category).sum = (rest.map fun v => v.category).sum := by
  rw [List.map_map]
  congr 1
  exact List.map_congr_left (fun v _ => pm_cat ρ v)
theorem pm_pre (hK : pm_Kn ρ τ D sz aV s s.heap) (hSim : pm_Sim ρ τ D sz w H) (hS : va_S (fun q => sz ≤ q) s.heap H locs) {av : List Value} : ∀ U : State, U.heap = H → s.WarmedH U.vm → pm_Pc ρ τ D sz aV av w (av.map (pm_rn ρ)).toArray U := by
  intro U hU hW
  refine ⟨rfl, by rw [hU]; exact hSim, pm_Kn.warm hW (fun a h1 h2 => ?_) hK⟩
  rw [hU]
  exact hS.2.1 a h1 h2
theorem pm_may_all {M kd M' : Nat} {av rest : List Value} {w : pm_H} {nl : Nat} (hm : pm_may M kd M' av rest w nl = true) : nl = pt_l M ∧ pt_f M' + 1 ≤ pt_f M ∧ 8 + (pt_l M' + 11) + pt_w M' ≤ pt_w M ∧ (rest.map fun v => v.category).sum ≤ 8 ∧ (lg_sl av).length ≤ pt_l M' := by
  unfold pm_may at hm
  rw [Bool.and_eq_true, decide_eq_true_eq] at hm
  exact hm.1
theorem pm_may0 {M M' : Nat} {av rest : List Value} {w : pm_H} {nl : Nat} (hm : pm_may M 0 M' av rest w nl = true) : ∃ (b : Nat) (as fs : List Value), av = .ref b :: as ∧ as.length = pt_n M' ∧ w b = some (.inr (pt_o M', fs)) := by
  unfold pm_may at hm
  rw [Bool.and_eq_true] at hm
  have hm := hm.2
  cases av with
  | nil => cases hm
  | cons v as =>
    cases v with
    | ref b =>
      try dsimp only at hm
      rw [Bool.and_eq_true, decide_eq_true_eq] at hm
      obtain ⟨h1, h2⟩ := hm
      cases hw : w b with
      | none => rw [hw] at h2; cases h2
      | some e =>
        rw [hw] at h2
        cases e with
        | inl x => cases h2
        | inr x =>
          obtain ⟨ci, fs⟩ := x
          have hci : ci = pt_o M' := by simpa using h2
          subst hci
          exact ⟨b, as, fs, rfl, h1, hw⟩
    | _ => cases hm
theorem pm_may1 {M M' kd : Nat} {av rest : List Value} {w : pm_H} {nl : Nat} (hk : kd = 1 ∨ kd = 2) (hm : pm_may M kd M' av rest w nl = true) : av.length = pt_n M' := by
  unfold pm_may at hm
  rw [Bool.and_eq_true] at hm
  have hm := hm.2
  rcases hk with rfl | rfl
  · simpa using hm
  · simpa using hm
/-- a call of a method whose contract is known -/
theorem pm_call_ok (hx : p.tables.exec = Jvm.exec) (hb : c.code = cc) (hml : c.maxLocals = pl.length) (hown : s.vm.findClass (pt_cn o) = some m.cls) (hts : ∀ w ∈ pm_tb, w.before args s = true) (hK : pm_Kn ρ τ D sz aV s s.heap) (hd : decode cc pc = .ok (i, len)) {kd M M' : Nat} {av rest : List Value} (hc : pm_cl o i len st = some (kd, M', av, rest)) (hk34 : ¬ (kd = 3 ∨ kd = 4)) (hm : pm_may M kd M' av rest w pl.length = true)
    (hR : R.frames = pt_f M ∧ R.locals = pt_w M ∧ cells ≤ R.cells ∧ slots ≤ R.slots) {r : Option Value} {w' : pm_H} (hM : pm_Met l ρ τ D sz aV M' av w r w')
    (kk : pm_K p l e R s m args below meth c cells slots Q ρ τ D sz (pc + 3, pl, r.toList ++ rest, w')) : pm_K p l e R s m args below meth c cells slots Q ρ τ D sz (pc, pl, st, w) := by
  intro H locs ls hSim hS hl
  obtain ⟨-, hfr, hlo, hsum, hent⟩ := pm_may_all hm
  have hsum' : ((rest.map (pm_rn ρ)).map fun v => v.category).sum ≤ 8 := by rw [pm_sum]; exact hsum
  have hroom : (pm_rm M').frames + 1 ≤ R.frames ∧ 8 + (pt_l M' + 11) + (pm_rm M').locals ≤ R.locals := by rw [hR.1, hR.2.1]; exact ⟨hfr, hlo⟩
  have hkk : ∀ (H1 : Heap) (locs1 : List Loc), pm_Sim ρ τ D sz w' H1 → va_S (fun q => sz ≤ q) s.heap H1 locs1 → W p l e R s m args below meth c H1 locs1 cells slots Q (F0 m (pc + 3) ls ((r.map (pm_rn ρ)).toList ++ rest.map (pm_rn ρ))) := by
    intro H1 locs1 h1 h2
    have := kk H1 locs1 ls h1 h2 hl
    cases r <;> exact this
  have hsz : (F0 m pc ls (st.map (pm_rn ρ))).locals.size = c.maxLocals := by rw [hml]; exact hl.1
  unfold pm_cl at hc
  split at hc
  · split at hc
    · rename_i ix hn
      subst hn
      split at hc
      · rename_i M2 hpm
        cases hc
        obtain ⟨q1, q2, q3, hY, C, T, N, hcl, hC⟩ := pt_M_ok hpm
        dsimp only at q1 q2 q3 hY hcl hC
        obtain ⟨b, as, fs, hav, hlen, hw⟩ := pm_may0 hm
        have hst : st.map (pm_rn ρ) = (as.map (pm_rn ρ)).reverse ++ .ref (ρ b) :: (st.drop (pt_n M' + 1)).map (pm_rn ρ) := by
          have h1 : st = (.ref b :: as).reverse ++ st.drop (pt_n M' + 1) := by
            rw [← hav, List.reverse_reverse, List.take_append_drop]
          conv => lhs; rw [h1]
          simp [List.map_append, List.map_reverse, pm_rn]
        have hP : va_P D vwCl [(ρ b, pm_cv ρ τ (.inr (pt_o M', fs)))] H := fun j q hj => by
          cases j with
          | zero => cases hj; exact (hSim.1 b _ hw).1
          | succ j => cases hj
        rw [hav] at hM
        have hcw : CallW R s args (pt_cn o) (pt_y M').cls ix (pt_y M') (pt_b M') (pt_l M') (pt_r M') (pm_ws M') (pm_rm M') 0 0 (pt_n M') :=
          ⟨callB_of (pt_n M') hts (pm_good hY) rfl rfl rfl (hts _ hY.2.1) (hts _ q1) hY.2.2.1 hroom, hts _ q2, hts _ q3⟩
        refine pm_goon (va_runV (C := (pt_y M').cls) (As := as.map (pm_rn ρ)) (rest := (st.drop (pt_n M' + 1)).map (pm_rn ρ)) (b := ρ b) ⟨hx, hb, rfl, hown, hts⟩ hM hcw ⟨pm_blind, ?_, ?_⟩ rfl (by rw [List.length_map]; exact hlen) hsz hst (lv_room hsum') hd ⟨hR.2.2.1, hR.2.2.2⟩) hS hkk
        · rw [← hC]
          exact va_recv hK.1 hP hcl (q0 := 0) rfl
        · exact pm_pre (av := .ref b :: as) hK hSim hS
      · cases hc
        exact absurd (Or.inl rfl) hk34
      · cases hc
        exact absurd (Or.inr rfl) hk34
      · cases hc
    · cases hc
  · split at hc
    · rename_i ix hn
      subst hn
      split at hc
      · rename_i M2 hpm
        cases hc
        obtain ⟨q1, q2, hY⟩ := pt_M_ok hpm
        dsimp only at q1 q2 hY
        have hlen := pm_may1 (Or.inl rfl) hm
        have hst : st.map (pm_rn ρ) = ((st.take (pt_n M')).reverse.map (pm_rn ρ)).reverse ++ (st.drop (pt_n M')).map (pm_rn ρ) := by
          rw [← List.map_reverse, List.reverse_reverse, ← List.map_append, List.take_append_drop]
        have hcw : CallB R s args (pt_cn o) ix (pt_y M') (pt_b M') (pt_l M') (pt_r M') (pm_ws M') (pm_rm M') 0 0 (pt_n M') ∧ (Cond.static (pt_y M')).before args s = true :=
          ⟨callB_of (pt_n M') hts (pm_good hY) rfl rfl rfl (hts _ hY.2.1) (hts _ q1) hY.2.2.1 hroom, hts _ q2⟩
        exact pm_goon (va_runS (As := (st.take (pt_n M')).reverse.map (pm_rn ρ)) (rest := (st.drop (pt_n M')).map (pm_rn ρ)) ⟨hx, hb, rfl, hown, hts⟩ hM hcw ⟨pm_blind, pm_pre hK hSim hS⟩ rfl (by rw [List.length_map]; exact hlen) hsz hst (lv_room hsum') hd ⟨hR.2.2.1, hR.2.2.2⟩) hS hkk
      · rename_i M2 hpm
        cases hc
        obtain ⟨q2, hY, hN⟩ := pt_M_ok hpm
        dsimp only at q2 hY
        have hlen := pm_may1 (Or.inr rfl) hm
        have hst : st.map (pm_rn ρ) = ((st.take (pt_n M')).reverse.map (pm_rn ρ)).reverse ++ (st.drop (pt_n M')).map (pm_rn ρ) := by
          rw [← List.map_reverse, List.reverse_reverse, ← List.map_append, List.take_append_drop]
        have hcw : va_CN R s args (pt_cn o) ix (pt_y M') RX5 (pt_b M') (pt_l M') (pt_r M') (pm_ws M') (pm_rm M') 0 0 (pt_n M') ∧ (Cond.static (pt_y M')).before args s = true ∧ True :=
          ⟨va_cnB (pt_n M') hts (pm_good hY) rfl rfl rfl (hK.2.1 _ hN) (hts _ hY.2.1) hY.2.2.1 hroom, hts _ q2, trivial⟩
        exact pm_goon (va_runSN (As := (st.take (pt_n M')).reverse.map (pm_rn ρ)) (rest := (st.drop (pt_n M')).map (pm_rn ρ)) ⟨hx, hb, rfl, hown, hts⟩ hM hcw ⟨pm_blind, pm_pre hK hSim hS⟩ rfl (by rw [List.length_map]; exact hlen) hsz hst (lv_room hsum') hd ⟨hR.2.2.1, hR.2.2.2⟩) hS hkk
      · cases hc
    · cases hc
  · cases hc
/-- a return -/
theorem pm_fin_ok (hx : p.tables.exec = Jvm.exec) (hb : c.code = cc) {rt : Option FieldType} (hr : meth.sig.returnType = rt) (hlocks : meth.locks = false) (hd : decode cc pc = .ok (i, len)) {r : Option Value} (hf : pm_fin rt i len st = some r) : pm_K p l e R s m args below meth c cells slots (MQ below (pm_Qc ρ τ D sz r w) args s cells slots (fun q => sz ≤ q)) ρ τ D sz (pc, pl, st, w) := by
  intro H locs ls hSim hS hl
  have hq : ∀ t : State, t.heap = H → s.WarmedH t.vm → pm_Qc ρ τ D sz r w args s (.returned (r.map (pm_rn ρ))) t := fun t ht hW => ⟨⟨rfl, by rw [ht]; exact hSim⟩, hS.F ht⟩
  unfold pm_fin at hf
  split at hf
  · split at hf
    · rename_i hn; subst hn; cases hf; exact W.iret hx hb hr hq hS.2.2 hd hlocks
    · cases hf
  · split at hf
    · rename_i hn
      obtain ⟨hn, hv⟩ := hn
      subst hn; cases hf
      refine W.zret hx hb hr ?_ hq hS.2.2 hd hlocks
      rcases hv with rfl | rfl <;> rfl
    · cases hf
  · split at hf
    · rename_i hn; subst hn; cases hf; exact W.lret hx hb hr hq hS.2.2 hd hlocks
    · cases hf
  · split at hf
    · rename_i hn; subst hn; cases hf; exact W.vret hx hb hr hq hS.2.2 hd hlocks
    · cases hf
  · cases hf
end PMC
/-- what the machine does at a call of length or charAt of a String constant (shown in a later part) -/
def pm_ScOk (l : Launch) : Prop := ∀ (p : Program) (e : Env) (R : Room) (s : State) (m : MethodId) (args : Array Value) (below : List Frame) (meth : Method) (c : Code) (cells slots : Nat) (Q : State → Prop) (ρ : Nat → Nat) (τ : Nat → ClassId) (D : va_G) (sz : Nat) (aV : Nat → Nat) (cc : ByteArray) (i : Instr) (len pc o : Nat) (pl : pm_L) (st : List Value) (w : pm_H) (kd M' : Nat) (av rest : List Value) (v : Value),
  p.tables.exec = Jvm.exec → c.code = cc → c.maxLocals = pl.length → s.vm.findClass (pt_cn o) = some m.cls → (∀ w ∈ pm_tb, w.before args s = true) → pm_Kn ρ τ D sz aV s s.heap → decode cc pc = .ok (i, len) → pm_cl o i len st = some (kd, M', av, rest) → (kd = 3 ∨ kd = 4) → pm_sc kd av = some v → R.frames ≥ 6 → R.locals ≥ 200 → cells ≤ R.cells → slots ≤ R.slots → (rest.map fun v => v.category).sum ≤ 8 →
  pm_K p l e R s m args below meth c cells slots Q ρ τ D sz (pc + 3, pl, v :: rest, w) → pm_K p l e R s m args below meth c cells slots Q ρ τ D sz (pc, pl, st, w)
/-- what a configuration's run answers, from any of its states -/
def pm_B (l : Launch) (ρ : Nat → Nat) (τ : Nat → ClassId) (D : va_G) (sz : Nat) (aV : Nat → Nat) (n M : Nat) : Prop := ∀ (cf : pm_C) (r : Option Value) (w' : pm_H), pm_run n M cf = some (r, w') → ∀ (p : Program) (e : Env) (s : State) (m : MethodId) (args : Array Value) (below : List Frame) (meth : Method) (c : Code),
  p.tables.exec = Jvm.exec → c.code = pt_b M → c.maxLocals = pt_l M → s.vm.findClass (pt_cn (pt_o M)) = some m.cls → (∀ w ∈ pm_tb, w.before args s = true) → meth.sig.returnType = pt_r M → meth.locks = false → pm_Kn ρ τ D sz aV s s.heap →
  pm_K p l e (pm_rm M) s m args below meth c 0 0 (MQ below (pm_Qc ρ τ D sz r w') args s 0 0 (fun q => sz ≤ q)) ρ τ D sz cf
theorem pm_met_of {l : Launch} {ρ : Nat → Nat} {τ : Nat → ClassId} {D : va_G} {sz : Nat} {aV : Nat → Nat} {n M : Nat} (hY : pt_Yp M) (hB : pm_B l ρ τ D sz aV n M) {av : List Value} {w : pm_H} {r : Option Value} {w' : pm_H} (hlen : (lg_sl av).length ≤ pt_l M) (h : pm_run n M (0, pm_ent (pt_l M) av, [], w) = some (r, w')) : pm_Met l ρ τ D sz aV M av w r w' := by
  refine pm_ofW (cc := pt_b M) (maxL := pt_l M) (ret := pt_r M) hY.2.2.2.1 rfl ?_
  intro p e s m args below meth c s₁ B hml hP
  obtain ⟨rfl, hSim, hK⟩ := hP
  have hts0 := atoms_spec (ws := pm_ws M) B.pre
  have hown : s.vm.findClass (pt_cn (pt_o M)) = some m.cls := by rw [hY.2.2.2.2]; exact findClass_of_methodNamed B.named
  have hh := hB _ r w' h p e s m (av.map (pm_rn ρ)).toArray below meth c B.exec B.bytes hml hown (fun w hw => hts0 w (List.mem_cons_of_mem _ hw)) B.returns B.notSynchronized hK s.heap [] _ hSim va_S.rf (pm_ent_lh ρ av hlen)
  rw [lg_entry_eq]
  exact hh
theorem pm_sound {l : Launch} (hsc : pm_ScOk l) (ρ : Nat → Nat) (τ : Nat → ClassId) (D : va_G) (sz : Nat) (aV : Nat → Nat) : ∀ (n M : Nat), pm_B l ρ τ D sz aV n M := by
  intro n
  induction n with
  | zero => intro M cf r w' h; cases h
  | succ n ih =>
    intro M cf r w' h p e s m args below meth c hx hb hml hown hts hr hlocks hK
    obtain ⟨pc, pl, st, w⟩ := cf
    rw [pm_run] at h
    split at h
    · cases h
    · rename_i i len hd
      split at h
      · rename_i r2 hf
        cases h
        exact pm_fin_ok hx hb hr hlocks hd hf
      · split at h
        · rename_i kd M' av rest hc
          split at h
          · rename_i hk
            split at h
            · rename_i v hv
              split at h
              · rename_i hm
                exact hsc _ _ _ _ _ _ _ _ _ _ _ _ _ _ _ _ _ _ _ _ _ _ _ _ _ _ _ _ _ _ hx hb (hml.trans hm.1.symm) hown hts hK hd hc hk hv hm.2.1 hm.2.2.1 (Nat.le_refl _) (Nat.le_refl _) hm.2.2.2 (ih M _ r w' h p e s m args below meth c hx hb hml hown hts hr hlocks hK)
              · cases h
            · cases h
          · rename_i hk
            split at h
            · rename_i hm
              split at h
              · rename_i r2 w2 hr2
                have hall := pm_may_all hm
                have hY : pt_Yp M' := by
                  unfold pm_cl at hc
                  split at hc
                  · split at hc
                    · split at hc
                      · rename_i hpm; cases hc; exact (pt_M_ok hpm).2.2.2.1
                      · cases hc; exact absurd (Or.inl rfl) hk
                      · cases hc; exact absurd (Or.inr rfl) hk
                      · cases hc
                    · cases hc
                  · split at hc
                    · split at hc
                      · rename_i hpm; cases hc; exact (pt_M_ok hpm).2.2
                      · rename_i hpm; cases hc; exact (pt_M_ok hpm).2.1
                      · cases hc
                    · cases hc
                  · cases hc
                exact pm_call_ok hx hb (hml.trans hall.1.symm) hown hts hK hd hc hk hm ⟨rfl, rfl, Nat.le_refl _, Nat.le_refl _⟩ (pm_met_of hY (ih M') hall.2.2.2.2 hr2) (ih M _ r w' h p e s m args below meth c hx hb hml hown hts hr hlocks hK)
              · cases h
            · cases h
        · split at h
          · rename_i cf hs
            exact pm_s_ok hx hb hown hts hK hd hs (ih M cf r w' h p e s m args below meth c hx hb hml hown hts hr hlocks hK)
          · cases h
/-- the contract of a method, out of what its run answers -/
theorem pm_contract {l : Launch} (hsc : pm_ScOk l) (ρ : Nat → Nat) (τ : Nat → ClassId) (D : va_G) (sz : Nat) (aV : Nat → Nat) {M : Nat} (hY : pt_Yp M) {av : List Value} {w : pm_H} {r : Option Value} {w' : pm_H} (hlen : (lg_sl av).length ≤ pt_l M) (h : pm_call M av w = some (r, w')) : pm_Met l ρ τ D sz aV M av w r w' := by
  obtain ⟨n, hn⟩ := pm_evc_iff.mp h
  exact pm_met_of hY (pm_sound hsc ρ τ D sz aV n M) hlen hn
end
