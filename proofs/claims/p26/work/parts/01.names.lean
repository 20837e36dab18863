-- ===== PART A: goes FIRST, ahead of the names: the tables' words, and 'selects' of the private methods out of them =====
/-- a private method of a class that the tables say can be made, by its rows of tables_1 -/
def lw_okq (q : MethodName × Nat) : Prop := (q.1.cls ≠ "java/lang/invoke/MethodHandle" ∧ q.1.cls ≠ "java/lang/invoke/VarHandle") ∧ Cond.instantiable q.1.cls q.2 ∈ tables_1 ∧ Cond.privateMethod q.1 ∈ tables_1 ∧ Cond.instanceMethod q.1 ∈ tables_1
theorem lw_p0 : lw_okq (⟨"java/lang/Throwable", "fillInStackTrace", "(I)Ljava/lang/Throwable;"⟩, 6) := ⟨⟨by decide +kernel, by decide +kernel⟩, List.mem_of_getElem? (i := 487) (by decide +kernel), List.mem_of_getElem? (i := 485) (by decide +kernel), List.mem_of_getElem? (i := 486) (by decide +kernel)⟩
theorem lw_p1 : lw_okq (⟨"SpiceQuay", "counted", "(I)I"⟩, 10) := ⟨⟨by decide +kernel, by decide +kernel⟩, List.mem_of_getElem? (i := 33) (by decide +kernel), List.mem_of_getElem? (i := 517) (by decide +kernel), List.mem_of_getElem? (i := 518) (by decide +kernel)⟩
theorem lw_p2 : lw_okq (⟨"SpiceQuay", "isLot", "(I)Z"⟩, 10) := ⟨⟨by decide +kernel, by decide +kernel⟩, List.mem_of_getElem? (i := 33) (by decide +kernel), List.mem_of_getElem? (i := 542) (by decide +kernel), List.mem_of_getElem? (i := 543) (by decide +kernel)⟩
theorem lw_p3 : lw_okq (⟨"SpiceQuay", "isMerchant", "(I)Z"⟩, 10) := ⟨⟨by decide +kernel, by decide +kernel⟩, List.mem_of_getElem? (i := 33) (by decide +kernel), List.mem_of_getElem? (i := 567) (by decide +kernel), List.mem_of_getElem? (i := 568) (by decide +kernel)⟩
theorem lw_p4 : lw_okq (⟨"SpiceQuay$Stand", "lotsOf", "(I)I"⟩, 15) := ⟨⟨by decide +kernel, by decide +kernel⟩, List.mem_of_getElem? (i := 284) (by decide +kernel), List.mem_of_getElem? (i := 585) (by decide +kernel), List.mem_of_getElem? (i := 586) (by decide +kernel)⟩
theorem lw_p5 : lw_okq (⟨"SpiceQuay$Stand", "weightOfLotsOf", "(I)I"⟩, 15) := ⟨⟨by decide +kernel, by decide +kernel⟩, List.mem_of_getElem? (i := 284) (by decide +kernel), List.mem_of_getElem? (i := 589) (by decide +kernel), List.mem_of_getElem? (i := 590) (by decide +kernel)⟩
theorem lw_p6 : lw_okq (⟨"SpiceQuay$Stand", "lotsWithChopOf", "(I)I"⟩, 15) := ⟨⟨by decide +kernel, by decide +kernel⟩, List.mem_of_getElem? (i := 284) (by decide +kernel), List.mem_of_getElem? (i := 602) (by decide +kernel), List.mem_of_getElem? (i := 603) (by decide +kernel)⟩
theorem lw_p7 : lw_okq (⟨"SpiceQuay", "tellOrder", "(II)I"⟩, 10) := ⟨⟨by decide +kernel, by decide +kernel⟩, List.mem_of_getElem? (i := 33) (by decide +kernel), List.mem_of_getElem? (i := 611) (by decide +kernel), List.mem_of_getElem? (i := 612) (by decide +kernel)⟩
theorem lw_p8 : lw_okq (⟨"SpiceQuay$Reckoner", "take", "()I"⟩, 4) := ⟨⟨by decide +kernel, by decide +kernel⟩, List.mem_of_getElem? (i := 383) (by decide +kernel), List.mem_of_getElem? (i := 626) (by decide +kernel), List.mem_of_getElem? (i := 627) (by decide +kernel)⟩
theorem lw_p9 : lw_okq (⟨"SpiceQuay$Reckoner", "put", "(I)V"⟩, 4) := ⟨⟨by decide +kernel, by decide +kernel⟩, List.mem_of_getElem? (i := 383) (by decide +kernel), List.mem_of_getElem? (i := 630) (by decide +kernel), List.mem_of_getElem? (i := 631) (by decide +kernel)⟩
theorem lw_p10 : lw_okq (⟨"SpiceQuay$Reckoner", "value", "(III)I"⟩, 4) := ⟨⟨by decide +kernel, by decide +kernel⟩, List.mem_of_getElem? (i := 383) (by decide +kernel), List.mem_of_getElem? (i := 659) (by decide +kernel), List.mem_of_getElem? (i := 660) (by decide +kernel)⟩
theorem lw_p11 : lw_okq (⟨"SpiceQuay$Days", "canWeigh", "(II)Z"⟩, 3) := ⟨⟨by decide +kernel, by decide +kernel⟩, List.mem_of_getElem? (i := 377) (by decide +kernel), List.mem_of_getElem? (i := 669) (by decide +kernel), List.mem_of_getElem? (i := 670) (by decide +kernel)⟩
theorem lw_p12 : lw_okq (⟨"SpiceQuay$Days", "canSell", "(III)Z"⟩, 3) := ⟨⟨by decide +kernel, by decide +kernel⟩, List.mem_of_getElem? (i := 377) (by decide +kernel), List.mem_of_getElem? (i := 673) (by decide +kernel), List.mem_of_getElem? (i := 674) (by decide +kernel)⟩
theorem lw_p13 : lw_okq (⟨"SpiceQuay$Days", "price", "(II)I"⟩, 3) := ⟨⟨by decide +kernel, by decide +kernel⟩, List.mem_of_getElem? (i := 377) (by decide +kernel), List.mem_of_getElem? (i := 678) (by decide +kernel), List.mem_of_getElem? (i := 679) (by decide +kernel)⟩
theorem lw_p14 : lw_okq (⟨"SpiceQuay$Days", "due", "(III)I"⟩, 3) := ⟨⟨by decide +kernel, by decide +kernel⟩, List.mem_of_getElem? (i := 377) (by decide +kernel), List.mem_of_getElem? (i := 685) (by decide +kernel), List.mem_of_getElem? (i := 686) (by decide +kernel)⟩
theorem lw_p15 : lw_okq (⟨"SpiceQuay$Debts", "reachBy", "(I)V"⟩, 2) := ⟨⟨by decide +kernel, by decide +kernel⟩, List.mem_of_getElem? (i := 292) (by decide +kernel), List.mem_of_getElem? (i := 709) (by decide +kernel), List.mem_of_getElem? (i := 710) (by decide +kernel)⟩
def lw_privs_1 : List (MethodName × Nat) := [(⟨"java/lang/Throwable", "fillInStackTrace", "(I)Ljava/lang/Throwable;"⟩, 6), (⟨"SpiceQuay", "counted", "(I)I"⟩, 10), (⟨"SpiceQuay", "isLot", "(I)Z"⟩, 10), (⟨"SpiceQuay", "isMerchant", "(I)Z"⟩, 10), (⟨"SpiceQuay$Stand", "lotsOf", "(I)I"⟩, 15), (⟨"SpiceQuay$Stand", "weightOfLotsOf", "(I)I"⟩, 15), (⟨"SpiceQuay$Stand", "lotsWithChopOf", "(I)I"⟩, 15), (⟨"SpiceQuay", "tellOrder", "(II)I"⟩, 10), (⟨"SpiceQuay$Reckoner", "take", "()I"⟩, 4), (⟨"SpiceQuay$Reckoner", "put", "(I)V"⟩, 4), (⟨"SpiceQuay$Reckoner", "value", "(III)I"⟩, 4), (⟨"SpiceQuay$Days", "canWeigh", "(II)Z"⟩, 3), (⟨"SpiceQuay$Days", "canSell", "(III)Z"⟩, 3), (⟨"SpiceQuay$Days", "price", "(II)I"⟩, 3), (⟨"SpiceQuay$Days", "due", "(III)I"⟩, 3), (⟨"SpiceQuay$Debts", "reachBy", "(I)V"⟩, 2)]
theorem lw_r1 : ∀ q ∈ lw_privs_1, lw_okq q := List.forall_mem_cons.mpr ⟨lw_p0, List.forall_mem_cons.mpr ⟨lw_p1, List.forall_mem_cons.mpr ⟨lw_p2, List.forall_mem_cons.mpr ⟨lw_p3, List.forall_mem_cons.mpr ⟨lw_p4, List.forall_mem_cons.mpr ⟨lw_p5, List.forall_mem_cons.mpr ⟨lw_p6, List.forall_mem_cons.mpr ⟨lw_p7, List.forall_mem_cons.mpr ⟨lw_p8, List.forall_mem_cons.mpr ⟨lw_p9, List.forall_mem_cons.mpr ⟨lw_p10, List.forall_mem_cons.mpr ⟨lw_p11, List.forall_mem_cons.mpr ⟨lw_p12, List.forall_mem_cons.mpr ⟨lw_p13, List.forall_mem_cons.mpr ⟨lw_p14, List.forall_mem_cons.mpr ⟨lw_p15, fun _ h => absurd h List.not_mem_nil⟩⟩⟩⟩⟩⟩⟩⟩⟩⟩⟩⟩⟩⟩⟩⟩
theorem lw_p16 : lw_okq (⟨"SpiceQuay$Debts", "widen", "()V"⟩, 2) := ⟨⟨by decide +kernel, by decide +kernel⟩, List.mem_of_getElem? (i := 292) (by decide +kernel), List.mem_of_getElem? (i := 722) (by decide +kernel), List.mem_of_getElem? (i := 723) (by decide +kernel)⟩
theorem lw_p17 : lw_okq (⟨"SpiceQuay$Days", "followOrders", "()I"⟩, 3) := ⟨⟨by decide +kernel, by decide +kernel⟩, List.mem_of_getElem? (i := 377) (by decide +kernel), List.mem_of_getElem? (i := 757) (by decide +kernel), List.mem_of_getElem? (i := 758) (by decide +kernel)⟩
theorem lw_p18 : lw_okq (⟨"SpiceQuay$Days", "carryOut", "(I)V"⟩, 3) := ⟨⟨by decide +kernel, by decide +kernel⟩, List.mem_of_getElem? (i := 377) (by decide +kernel), List.mem_of_getElem? (i := 762) (by decide +kernel), List.mem_of_getElem? (i := 763) (by decide +kernel)⟩
theorem lw_p19 : lw_okq (⟨"SpiceQuay$Days", "weigh", "(II)V"⟩, 3) := ⟨⟨by decide +kernel, by decide +kernel⟩, List.mem_of_getElem? (i := 377) (by decide +kernel), List.mem_of_getElem? (i := 766) (by decide +kernel), List.mem_of_getElem? (i := 767) (by decide +kernel)⟩
theorem lw_p20 : lw_okq (⟨"SpiceQuay$Days", "sell", "(III)V"⟩, 3) := ⟨⟨by decide +kernel, by decide +kernel⟩, List.mem_of_getElem? (i := 377) (by decide +kernel), List.mem_of_getElem? (i := 778) (by decide +kernel), List.mem_of_getElem? (i := 779) (by decide +kernel)⟩
theorem lw_p21 : lw_okq (⟨"SpiceQuay$Days", "payBack", "(III)V"⟩, 3) := ⟨⟨by decide +kernel, by decide +kernel⟩, List.mem_of_getElem? (i := 377) (by decide +kernel), List.mem_of_getElem? (i := 793) (by decide +kernel), List.mem_of_getElem? (i := 794) (by decide +kernel)⟩
theorem lw_p22 : lw_okq (⟨"SpiceQuay", "digestOfLots", "(J)J"⟩, 10) := ⟨⟨by decide +kernel, by decide +kernel⟩, List.mem_of_getElem? (i := 33) (by decide +kernel), List.mem_of_getElem? (i := 850) (by decide +kernel), List.mem_of_getElem? (i := 851) (by decide +kernel)⟩
theorem lw_p23 : lw_okq (⟨"SpiceQuay", "digestOfMerchants", "(J)J"⟩, 10) := ⟨⟨by decide +kernel, by decide +kernel⟩, List.mem_of_getElem? (i := 33) (by decide +kernel), List.mem_of_getElem? (i := 854) (by decide +kernel), List.mem_of_getElem? (i := 855) (by decide +kernel)⟩
theorem lw_p24 : lw_okq (⟨"SpiceQuay", "digestOfGuilds", "(J)J"⟩, 10) := ⟨⟨by decide +kernel, by decide +kernel⟩, List.mem_of_getElem? (i := 33) (by decide +kernel), List.mem_of_getElem? (i := 858) (by decide +kernel), List.mem_of_getElem? (i := 859) (by decide +kernel)⟩
theorem lw_p25 : lw_okq (⟨"SpiceQuay", "digestOfOrders", "(J)J"⟩, 10) := ⟨⟨by decide +kernel, by decide +kernel⟩, List.mem_of_getElem? (i := 33) (by decide +kernel), List.mem_of_getElem? (i := 862) (by decide +kernel), List.mem_of_getElem? (i := 863) (by decide +kernel)⟩
theorem lw_p26 : lw_okq (⟨"SpiceQuayLaw$Sim", "lose", "()V"⟩, 9) := ⟨⟨by decide +kernel, by decide +kernel⟩, List.mem_of_getElem? (i := 872) (by decide +kernel), List.mem_of_getElem? (i := 870) (by decide +kernel), List.mem_of_getElem? (i := 871) (by decide +kernel)⟩
theorem lw_p27 : lw_okq (⟨"SpiceQuayLaw$Sim", "carry", "([I)Z"⟩, 9) := ⟨⟨by decide +kernel, by decide +kernel⟩, List.mem_of_getElem? (i := 872) (by decide +kernel), List.mem_of_getElem? (i := 875) (by decide +kernel), List.mem_of_getElem? (i := 876) (by decide +kernel)⟩
theorem lw_p28 : lw_okq (⟨"SpiceQuayLaw$Sim", "back", "(III[Z)I"⟩, 9) := ⟨⟨by decide +kernel, by decide +kernel⟩, List.mem_of_getElem? (i := 872) (by decide +kernel), List.mem_of_getElem? (i := 932) (by decide +kernel), List.mem_of_getElem? (i := 933) (by decide +kernel)⟩
theorem lw_p29 : lw_okq (⟨"SpiceQuay", "append", "(I)V"⟩, 10) := ⟨⟨by decide +kernel, by decide +kernel⟩, List.mem_of_getElem? (i := 33) (by decide +kernel), List.mem_of_getElem? (i := 1036) (by decide +kernel), List.mem_of_getElem? (i := 1037) (by decide +kernel)⟩
theorem lw_p30 : lw_okq (⟨"SpiceQuay$Tokens", "behindBlanks", "(I)I"⟩, 7) := ⟨⟨by decide +kernel, by decide +kernel⟩, List.mem_of_getElem? (i := 52) (by decide +kernel), List.mem_of_getElem? (i := 1049) (by decide +kernel), List.mem_of_getElem? (i := 1050) (by decide +kernel)⟩
theorem lw_p31 : lw_okq (⟨"SpiceQuay$Tokens", "reads", "(I)Z"⟩, 7) := ⟨⟨by decide +kernel, by decide +kernel⟩, List.mem_of_getElem? (i := 52) (by decide +kernel), List.mem_of_getElem? (i := 1054) (by decide +kernel), List.mem_of_getElem? (i := 1055) (by decide +kernel)⟩
def lw_privs_2 : List (MethodName × Nat) := [(⟨"SpiceQuay$Debts", "widen", "()V"⟩, 2), (⟨"SpiceQuay$Days", "followOrders", "()I"⟩, 3), (⟨"SpiceQuay$Days", "carryOut", "(I)V"⟩, 3), (⟨"SpiceQuay$Days", "weigh", "(II)V"⟩, 3), (⟨"SpiceQuay$Days", "sell", "(III)V"⟩, 3), (⟨"SpiceQuay$Days", "payBack", "(III)V"⟩, 3), (⟨"SpiceQuay", "digestOfLots", "(J)J"⟩, 10), (⟨"SpiceQuay", "digestOfMerchants", "(J)J"⟩, 10), (⟨"SpiceQuay", "digestOfGuilds", "(J)J"⟩, 10), (⟨"SpiceQuay", "digestOfOrders", "(J)J"⟩, 10), (⟨"SpiceQuayLaw$Sim", "lose", "()V"⟩, 9), (⟨"SpiceQuayLaw$Sim", "carry", "([I)Z"⟩, 9), (⟨"SpiceQuayLaw$Sim", "back", "(III[Z)I"⟩, 9), (⟨"SpiceQuay", "append", "(I)V"⟩, 10), (⟨"SpiceQuay$Tokens", "behindBlanks", "(I)I"⟩, 7), (⟨"SpiceQuay$Tokens", "reads", "(I)Z"⟩, 7)]
theorem lw_r2 : ∀ q ∈ lw_privs_2, lw_okq q := List.forall_mem_cons.mpr ⟨lw_p16, List.forall_mem_cons.mpr ⟨lw_p17, List.forall_mem_cons.mpr ⟨lw_p18, List.forall_mem_cons.mpr ⟨lw_p19, List.forall_mem_cons.mpr ⟨lw_p20, List.forall_mem_cons.mpr ⟨lw_p21, List.forall_mem_cons.mpr ⟨lw_p22, List.forall_mem_cons.mpr ⟨lw_p23, List.forall_mem_cons.mpr ⟨lw_p24, List.forall_mem_cons.mpr ⟨lw_p25, List.forall_mem_cons.mpr ⟨lw_p26, List.forall_mem_cons.mpr ⟨lw_p27, List.forall_mem_cons.mpr ⟨lw_p28, List.forall_mem_cons.mpr ⟨lw_p29, List.forall_mem_cons.mpr ⟨lw_p30, List.forall_mem_cons.mpr ⟨lw_p31, fun _ h => absurd h List.not_mem_nil⟩⟩⟩⟩⟩⟩⟩⟩⟩⟩⟩⟩⟩⟩⟩⟩
theorem lw_p32 : lw_okq (⟨"SpiceQuay$Tokens", "readsWord", "(I)Z"⟩, 7) := ⟨⟨by decide +kernel, by decide +kernel⟩, List.mem_of_getElem? (i := 52) (by decide +kernel), List.mem_of_getElem? (i := 1061) (by decide +kernel), List.mem_of_getElem? (i := 1062) (by decide +kernel)⟩
theorem lw_p33 : lw_okq (⟨"SpiceQuay$Tokens", "keyword", "(II)I"⟩, 7) := ⟨⟨by decide +kernel, by decide +kernel⟩, List.mem_of_getElem? (i := 52) (by decide +kernel), List.mem_of_getElem? (i := 1068) (by decide +kernel), List.mem_of_getElem? (i := 1069) (by decide +kernel)⟩
theorem lw_p34 : lw_okq (⟨"SpiceQuay$Tokens", "spells", "(III)Z"⟩, 7) := ⟨⟨by decide +kernel, by decide +kernel⟩, List.mem_of_getElem? (i := 52) (by decide +kernel), List.mem_of_getElem? (i := 1075) (by decide +kernel), List.mem_of_getElem? (i := 1076) (by decide +kernel)⟩
theorem lw_p35 : lw_okq (⟨"SpiceQuay$Tokens", "firstWithName", "(II)I"⟩, 7) := ⟨⟨by decide +kernel, by decide +kernel⟩, List.mem_of_getElem? (i := 52) (by decide +kernel), List.mem_of_getElem? (i := 1079) (by decide +kernel), List.mem_of_getElem? (i := 1080) (by decide +kernel)⟩
theorem lw_p36 : lw_okq (⟨"SpiceQuay$Tokens", "isSame", "(III)Z"⟩, 7) := ⟨⟨by decide +kernel, by decide +kernel⟩, List.mem_of_getElem? (i := 52) (by decide +kernel), List.mem_of_getElem? (i := 1083) (by decide +kernel), List.mem_of_getElem? (i := 1084) (by decide +kernel)⟩
theorem lw_p37 : lw_okq (⟨"SpiceQuay$Tokens", "add", "(IIII)V"⟩, 7) := ⟨⟨by decide +kernel, by decide +kernel⟩, List.mem_of_getElem? (i := 52) (by decide +kernel), List.mem_of_getElem? (i := 1087) (by decide +kernel), List.mem_of_getElem? (i := 1088) (by decide +kernel)⟩
theorem lw_p38 : lw_okq (⟨"SpiceQuay$Tokens", "readsNumber", "(I)Z"⟩, 7) := ⟨⟨by decide +kernel, by decide +kernel⟩, List.mem_of_getElem? (i := 52) (by decide +kernel), List.mem_of_getElem? (i := 1092) (by decide +kernel), List.mem_of_getElem? (i := 1093) (by decide +kernel)⟩
theorem lw_p39 : lw_okq (⟨"SpiceQuay$Tokens", "readsSign", "(II)Z"⟩, 7) := ⟨⟨by decide +kernel, by decide +kernel⟩, List.mem_of_getElem? (i := 52) (by decide +kernel), List.mem_of_getElem? (i := 1096) (by decide +kernel), List.mem_of_getElem? (i := 1097) (by decide +kernel)⟩
theorem lw_p40 : lw_okq (⟨"SpiceQuay$Reader", "begin", "()V"⟩, 9) := ⟨⟨by decide +kernel, by decide +kernel⟩, List.mem_of_getElem? (i := 85) (by decide +kernel), List.mem_of_getElem? (i := 1160) (by decide +kernel), List.mem_of_getElem? (i := 1161) (by decide +kernel)⟩
theorem lw_p41 : lw_okq (⟨"SpiceQuay$Reader", "seen", "()I"⟩, 9) := ⟨⟨by decide +kernel, by decide +kernel⟩, List.mem_of_getElem? (i := 85) (by decide +kernel), List.mem_of_getElem? (i := 1168) (by decide +kernel), List.mem_of_getElem? (i := 1169) (by decide +kernel)⟩
theorem lw_p42 : lw_okq (⟨"SpiceQuay$Reader", "spiceLine", "()V"⟩, 9) := ⟨⟨by decide +kernel, by decide +kernel⟩, List.mem_of_getElem? (i := 85) (by decide +kernel), List.mem_of_getElem? (i := 1173) (by decide +kernel), List.mem_of_getElem? (i := 1174) (by decide +kernel)⟩
theorem lw_p43 : lw_okq (⟨"SpiceQuay$Reader", "take", "(I)V"⟩, 9) := ⟨⟨by decide +kernel, by decide +kernel⟩, List.mem_of_getElem? (i := 85) (by decide +kernel), List.mem_of_getElem? (i := 1177) (by decide +kernel), List.mem_of_getElem? (i := 1178) (by decide +kernel)⟩
theorem lw_p44 : lw_okq (⟨"SpiceQuay$Reader", "fail", "()V"⟩, 9) := ⟨⟨by decide +kernel, by decide +kernel⟩, List.mem_of_getElem? (i := 85) (by decide +kernel), List.mem_of_getElem? (i := 1181) (by decide +kernel), List.mem_of_getElem? (i := 1182) (by decide +kernel)⟩
theorem lw_p45 : lw_okq (⟨"SpiceQuay$Reader", "takeNewName", "(LSpiceQuay$Names;)I"⟩, 9) := ⟨⟨by decide +kernel, by decide +kernel⟩, List.mem_of_getElem? (i := 85) (by decide +kernel), List.mem_of_getElem? (i := 1185) (by decide +kernel), List.mem_of_getElem? (i := 1186) (by decide +kernel)⟩
theorem lw_p46 : lw_okq (⟨"SpiceQuay$Reader", "blame", "(II)V"⟩, 9) := ⟨⟨by decide +kernel, by decide +kernel⟩, List.mem_of_getElem? (i := 85) (by decide +kernel), List.mem_of_getElem? (i := 1194) (by decide +kernel), List.mem_of_getElem? (i := 1195) (by decide +kernel)⟩
theorem lw_p47 : lw_okq (⟨"SpiceQuay$Reader", "takeNumber", "(II)I"⟩, 9) := ⟨⟨by decide +kernel, by decide +kernel⟩, List.mem_of_getElem? (i := 85) (by decide +kernel), List.mem_of_getElem? (i := 1207) (by decide +kernel), List.mem_of_getElem? (i := 1208) (by decide +kernel)⟩
def lw_privs_3 : List (MethodName × Nat) := [(⟨"SpiceQuay$Tokens", "readsWord", "(I)Z"⟩, 7), (⟨"SpiceQuay$Tokens", "keyword", "(II)I"⟩, 7), (⟨"SpiceQuay$Tokens", "spells", "(III)Z"⟩, 7), (⟨"SpiceQuay$Tokens", "firstWithName", "(II)I"⟩, 7), (⟨"SpiceQuay$Tokens", "isSame", "(III)Z"⟩, 7), (⟨"SpiceQuay$Tokens", "add", "(IIII)V"⟩, 7), (⟨"SpiceQuay$Tokens", "readsNumber", "(I)Z"⟩, 7), (⟨"SpiceQuay$Tokens", "readsSign", "(II)Z"⟩, 7), (⟨"SpiceQuay$Reader", "begin", "()V"⟩, 9), (⟨"SpiceQuay$Reader", "seen", "()I"⟩, 9), (⟨"SpiceQuay$Reader", "spiceLine", "()V"⟩, 9), (⟨"SpiceQuay$Reader", "take", "(I)V"⟩, 9), (⟨"SpiceQuay$Reader", "fail", "()V"⟩, 9), (⟨"SpiceQuay$Reader", "takeNewName", "(LSpiceQuay$Names;)I"⟩, 9), (⟨"SpiceQuay$Reader", "blame", "(II)V"⟩, 9), (⟨"SpiceQuay$Reader", "takeNumber", "(II)I"⟩, 9)]
theorem lw_r3 : ∀ q ∈ lw_privs_3, lw_okq q := List.forall_mem_cons.mpr ⟨lw_p32, List.forall_mem_cons.mpr ⟨lw_p33, List.forall_mem_cons.mpr ⟨lw_p34, List.forall_mem_cons.mpr ⟨lw_p35, List.forall_mem_cons.mpr ⟨lw_p36, List.forall_mem_cons.mpr ⟨lw_p37, List.forall_mem_cons.mpr ⟨lw_p38, List.forall_mem_cons.mpr ⟨lw_p39, List.forall_mem_cons.mpr ⟨lw_p40, List.forall_mem_cons.mpr ⟨lw_p41, List.forall_mem_cons.mpr ⟨lw_p42, List.forall_mem_cons.mpr ⟨lw_p43, List.forall_mem_cons.mpr ⟨lw_p44, List.forall_mem_cons.mpr ⟨lw_p45, List.forall_mem_cons.mpr ⟨lw_p46, List.forall_mem_cons.mpr ⟨lw_p47, fun _ h => absurd h List.not_mem_nil⟩⟩⟩⟩⟩⟩⟩⟩⟩⟩⟩⟩⟩⟩⟩⟩
theorem lw_p48 : lw_okq (⟨"SpiceQuay$Reader", "guildLine", "()V"⟩, 9) := ⟨⟨by decide +kernel, by decide +kernel⟩, List.mem_of_getElem? (i := 85) (by decide +kernel), List.mem_of_getElem? (i := 1212) (by decide +kernel), List.mem_of_getElem? (i := 1213) (by decide +kernel)⟩
theorem lw_p49 : lw_okq (⟨"SpiceQuay$Reader", "merchantLine", "()V"⟩, 9) := ⟨⟨by decide +kernel, by decide +kernel⟩, List.mem_of_getElem? (i := 85) (by decide +kernel), List.mem_of_getElem? (i := 1216) (by decide +kernel), List.mem_of_getElem? (i := 1217) (by decide +kernel)⟩
theorem lw_p50 : lw_okq (⟨"SpiceQuay$Reader", "lotLine", "()V"⟩, 9) := ⟨⟨by decide +kernel, by decide +kernel⟩, List.mem_of_getElem? (i := 85) (by decide +kernel), List.mem_of_getElem? (i := 1220) (by decide +kernel), List.mem_of_getElem? (i := 1221) (by decide +kernel)⟩
theorem lw_p51 : lw_okq (⟨"SpiceQuay$Reader", "takeName", "(LSpiceQuay$Names;)I"⟩, 9) := ⟨⟨by decide +kernel, by decide +kernel⟩, List.mem_of_getElem? (i := 85) (by decide +kernel), List.mem_of_getElem? (i := 1224) (by decide +kernel), List.mem_of_getElem? (i := 1225) (by decide +kernel)⟩
theorem lw_p52 : lw_okq (⟨"SpiceQuay$Reader", "orderLine", "(I)V"⟩, 9) := ⟨⟨by decide +kernel, by decide +kernel⟩, List.mem_of_getElem? (i := 85) (by decide +kernel), List.mem_of_getElem? (i := 1228) (by decide +kernel), List.mem_of_getElem? (i := 1229) (by decide +kernel)⟩
theorem lw_p53 : lw_okq (⟨"SpiceQuay$Reader", "sum", "(I)V"⟩, 9) := ⟨⟨by decide +kernel, by decide +kernel⟩, List.mem_of_getElem? (i := 85) (by decide +kernel), List.mem_of_getElem? (i := 1232) (by decide +kernel), List.mem_of_getElem? (i := 1233) (by decide +kernel)⟩
theorem lw_p54 : lw_okq (⟨"SpiceQuay$Reader", "product", "(I)V"⟩, 9) := ⟨⟨by decide +kernel, by decide +kernel⟩, List.mem_of_getElem? (i := 85) (by decide +kernel), List.mem_of_getElem? (i := 1236) (by decide +kernel), List.mem_of_getElem? (i := 1237) (by decide +kernel)⟩
theorem lw_p55 : lw_okq (⟨"SpiceQuay$Reader", "value", "(I)V"⟩, 9) := ⟨⟨by decide +kernel, by decide +kernel⟩, List.mem_of_getElem? (i := 85) (by decide +kernel), List.mem_of_getElem? (i := 1240) (by decide +kernel), List.mem_of_getElem? (i := 1241) (by decide +kernel)⟩
theorem lw_p56 : lw_okq (⟨"SpiceQuay$Reader", "turnedValue", "(I)V"⟩, 9) := ⟨⟨by decide +kernel, by decide +kernel⟩, List.mem_of_getElem? (i := 85) (by decide +kernel), List.mem_of_getElem? (i := 1250) (by decide +kernel), List.mem_of_getElem? (i := 1251) (by decide +kernel)⟩
theorem lw_p57 : lw_okq (⟨"SpiceQuay$Reader", "goesDeeper", "(II)Z"⟩, 9) := ⟨⟨by decide +kernel, by decide +kernel⟩, List.mem_of_getElem? (i := 85) (by decide +kernel), List.mem_of_getElem? (i := 1254) (by decide +kernel), List.mem_of_getElem? (i := 1255) (by decide +kernel)⟩
theorem lw_p58 : lw_okq (⟨"SpiceQuay$Reader", "sumInBrackets", "(I)V"⟩, 9) := ⟨⟨by decide +kernel, by decide +kernel⟩, List.mem_of_getElem? (i := 85) (by decide +kernel), List.mem_of_getElem? (i := 1258) (by decide +kernel), List.mem_of_getElem? (i := 1259) (by decide +kernel)⟩
theorem lw_p59 : lw_okq (⟨"SpiceQuay$Reader", "oneOfTwoSums", "(II)V"⟩, 9) := ⟨⟨by decide +kernel, by decide +kernel⟩, List.mem_of_getElem? (i := 85) (by decide +kernel), List.mem_of_getElem? (i := 1262) (by decide +kernel), List.mem_of_getElem? (i := 1263) (by decide +kernel)⟩
theorem lw_p60 : lw_okq (⟨"SpiceQuay$Reader", "test", "(I)V"⟩, 9) := ⟨⟨by decide +kernel, by decide +kernel⟩, List.mem_of_getElem? (i := 85) (by decide +kernel), List.mem_of_getElem? (i := 1266) (by decide +kernel), List.mem_of_getElem? (i := 1267) (by decide +kernel)⟩
theorem lw_p61 : lw_okq (⟨"SpiceQuay$Reader", "both", "(I)V"⟩, 9) := ⟨⟨by decide +kernel, by decide +kernel⟩, List.mem_of_getElem? (i := 85) (by decide +kernel), List.mem_of_getElem? (i := 1270) (by decide +kernel), List.mem_of_getElem? (i := 1271) (by decide +kernel)⟩
theorem lw_p62 : lw_okq (⟨"SpiceQuay$Reader", "single", "(I)V"⟩, 9) := ⟨⟨by decide +kernel, by decide +kernel⟩, List.mem_of_getElem? (i := 85) (by decide +kernel), List.mem_of_getElem? (i := 1274) (by decide +kernel), List.mem_of_getElem? (i := 1275) (by decide +kernel)⟩
theorem lw_p63 : lw_okq (⟨"SpiceQuay$Reader", "turnedTest", "(I)V"⟩, 9) := ⟨⟨by decide +kernel, by decide +kernel⟩, List.mem_of_getElem? (i := 85) (by decide +kernel), List.mem_of_getElem? (i := 1278) (by decide +kernel), List.mem_of_getElem? (i := 1279) (by decide +kernel)⟩
def lw_privs_4 : List (MethodName × Nat) := [(⟨"SpiceQuay$Reader", "guildLine", "()V"⟩, 9), (⟨"SpiceQuay$Reader", "merchantLine", "()V"⟩, 9), (⟨"SpiceQuay$Reader", "lotLine", "()V"⟩, 9), (⟨"SpiceQuay$Reader", "takeName", "(LSpiceQuay$Names;)I"⟩, 9), (⟨"SpiceQuay$Reader", "orderLine", "(I)V"⟩, 9), (⟨"SpiceQuay$Reader", "sum", "(I)V"⟩, 9), (⟨"SpiceQuay$Reader", "product", "(I)V"⟩, 9), (⟨"SpiceQuay$Reader", "value", "(I)V"⟩, 9), (⟨"SpiceQuay$Reader", "turnedValue", "(I)V"⟩, 9), (⟨"SpiceQuay$Reader", "goesDeeper", "(II)Z"⟩, 9), (⟨"SpiceQuay$Reader", "sumInBrackets", "(I)V"⟩, 9), (⟨"SpiceQuay$Reader", "oneOfTwoSums", "(II)V"⟩, 9), (⟨"SpiceQuay$Reader", "test", "(I)V"⟩, 9), (⟨"SpiceQuay$Reader", "both", "(I)V"⟩, 9), (⟨"SpiceQuay$Reader", "single", "(I)V"⟩, 9), (⟨"SpiceQuay$Reader", "turnedTest", "(I)V"⟩, 9)]
theorem lw_r4 : ∀ q ∈ lw_privs_4, lw_okq q := List.forall_mem_cons.mpr ⟨lw_p48, List.forall_mem_cons.mpr ⟨lw_p49, List.forall_mem_cons.mpr ⟨lw_p50, List.forall_mem_cons.mpr ⟨lw_p51, List.forall_mem_cons.mpr ⟨lw_p52, List.forall_mem_cons.mpr ⟨lw_p53, List.forall_mem_cons.mpr ⟨lw_p54, List.forall_mem_cons.mpr ⟨lw_p55, List.forall_mem_cons.mpr ⟨lw_p56, List.forall_mem_cons.mpr ⟨lw_p57, List.forall_mem_cons.mpr ⟨lw_p58, List.forall_mem_cons.mpr ⟨lw_p59, List.forall_mem_cons.mpr ⟨lw_p60, List.forall_mem_cons.mpr ⟨lw_p61, List.forall_mem_cons.mpr ⟨lw_p62, List.forall_mem_cons.mpr ⟨lw_p63, fun _ h => absurd h List.not_mem_nil⟩⟩⟩⟩⟩⟩⟩⟩⟩⟩⟩⟩⟩⟩⟩⟩
theorem lw_p64 : lw_okq (⟨"SpiceQuay$Reader", "testInBrackets", "(I)V"⟩, 9) := ⟨⟨by decide +kernel, by decide +kernel⟩, List.mem_of_getElem? (i := 85) (by decide +kernel), List.mem_of_getElem? (i := 1282) (by decide +kernel), List.mem_of_getElem? (i := 1283) (by decide +kernel)⟩
theorem lw_p65 : lw_okq (⟨"SpiceQuay$Reader", "takeComparison", "()I"⟩, 9) := ⟨⟨by decide +kernel, by decide +kernel⟩, List.mem_of_getElem? (i := 85) (by decide +kernel), List.mem_of_getElem? (i := 1286) (by decide +kernel), List.mem_of_getElem? (i := 1287) (by decide +kernel)⟩
def lw_privs_5 : List (MethodName × Nat) := [(⟨"SpiceQuay$Reader", "testInBrackets", "(I)V"⟩, 9), (⟨"SpiceQuay$Reader", "takeComparison", "()I"⟩, 9)]
theorem lw_r5 : ∀ q ∈ lw_privs_5, lw_okq q := List.forall_mem_cons.mpr ⟨lw_p64, List.forall_mem_cons.mpr ⟨lw_p65, fun _ h => absurd h List.not_mem_nil⟩⟩
def lw_privs : List (MethodName × Nat) := lw_privs_1 ++ (lw_privs_2 ++ (lw_privs_3 ++ (lw_privs_4 ++ (lw_privs_5))))
def lw_tbl : List Cond := k2_sels lw_privs ++ tables_1
theorem lw_privs_ok : ∀ q ∈ lw_privs, lw_okq q := by
  show ∀ q ∈ lw_privs_1 ++ (lw_privs_2 ++ (lw_privs_3 ++ (lw_privs_4 ++ (lw_privs_5)))), lw_okq q
  exact List.forall_mem_append.mpr ⟨lw_r1, List.forall_mem_append.mpr ⟨lw_r2, List.forall_mem_append.mpr ⟨lw_r3, List.forall_mem_append.mpr ⟨lw_r4, lw_r5⟩⟩⟩⟩
/-- the streams that the claim lets the run draw from -/
abbrev lw_cs : List Choice := [Jvm.Choice.named "NaN.bits"]
theorem lw_bits : nanBits ∈ lw_cs := by first | decide | exact List.mem_cons_self | simp [lw_cs, nanBits]
def RX0 : String := "SpiceQuay$Days"
def TX0 : u_T := fun k => match k with
  | 0 => ("SpiceQuay$Days", "plan", "LSpiceQuay$Plan;", true)
  | 1 => ("SpiceQuay$Days", "stand", "LSpiceQuay$Stand;", true)
  | _ => ("SpiceQuay$Days", "reckoner", "LSpiceQuay$Reckoner;", true)
def tyX0 : Nat → FieldType := fun k => match k with
  | 0 => .object "SpiceQuay$Plan"
  | 1 => .object "SpiceQuay$Stand"
  | _ => .object "SpiceQuay$Reckoner"
abbrev wsX00 : List Cond := u_ws RX0 TX0 3
theorem nmX0 : ∀ a, a < 3 → ∀ b, b < 3 → a ≠ b → (TX0 a).2.1 ≠ (TX0 b).2.1 := by decide +kernel
theorem tyX0_ok : ∀ k, k < 3 → parseFieldDescriptor (TX0 k).2.2.1 = some (tyX0 k) := by decide +kernel
abbrev cX0_init : ByteArray := prog_2_method_1_code
def yX0_init : MethodName := ⟨RX0, "<init>", "(LSpiceQuay$Plan;LSpiceQuay$Stand;)V"⟩
abbrev cX0_goOn : ByteArray := prog_2_method_2_code
def yX0_goOn : MethodName := ⟨RX0, "goOn", "(I)I"⟩
abbrev cX0_followOrders : ByteArray := prog_2_method_3_code
def yX0_followOrders : MethodName := ⟨RX0, "followOrders", "()I"⟩
abbrev cX0_wouldCarryOut : ByteArray := prog_2_method_4_code
def yX0_wouldCarryOut : MethodName := ⟨RX0, "wouldCarryOut", "(I)Z"⟩
abbrev cX0_carryOut : ByteArray := prog_2_method_5_code
def yX0_carryOut : MethodName := ⟨RX0, "carryOut", "(I)V"⟩
abbrev cX0_canWeigh : ByteArray := prog_2_method_6_code
def yX0_canWeigh : MethodName := ⟨RX0, "canWeigh", "(II)Z"⟩
abbrev cX0_weigh : ByteArray := prog_2_method_7_code
def yX0_weigh : MethodName := ⟨RX0, "weigh", "(II)V"⟩
abbrev cX0_canSell : ByteArray := prog_2_method_8_code
def yX0_canSell : MethodName := ⟨RX0, "canSell", "(III)Z"⟩
abbrev cX0_sell : ByteArray := prog_2_method_9_code
def yX0_sell : MethodName := ⟨RX0, "sell", "(III)V"⟩
abbrev cX0_price : ByteArray := prog_2_method_10_code
def yX0_price : MethodName := ⟨RX0, "price", "(II)I"⟩
abbrev cX0_due : ByteArray := prog_2_method_11_code
def yX0_due : MethodName := ⟨RX0, "due", "(III)I"⟩
abbrev cX0_payBack : ByteArray := prog_2_method_12_code
def yX0_payBack : MethodName := ⟨RX0, "payBack", "(III)V"⟩
def RX1 : String := "SpiceQuay$Debts"
def TX1 : u_T := fun k => match k with
  | 0 => ("SpiceQuay$Debts", "owed", "LSpiceQuay$Row;", true)
  | _ => ("SpiceQuay$Debts", "reached", "LSpiceQuay$Row;", true)
def tyX1 : Nat → FieldType := fun k => match k with
  | 0 => .object "SpiceQuay$Row"
  | _ => .object "SpiceQuay$Row"
abbrev wsX10 : List Cond := u_ws RX1 TX1 2
theorem nmX1 : ∀ a, a < 2 → ∀ b, b < 2 → a ≠ b → (TX1 a).2.1 ≠ (TX1 b).2.1 := by decide +kernel
theorem tyX1_ok : ∀ k, k < 2 → parseFieldDescriptor (TX1 k).2.2.1 = some (tyX1 k) := by decide +kernel
abbrev cX1_init : ByteArray := prog_3_method_1_code
def yX1_init : MethodName := ⟨RX1, "<init>", "()V"⟩
abbrev cX1_forget : ByteArray := prog_3_method_2_code
def yX1_forget : MethodName := ⟨RX1, "forget", "()V"⟩
abbrev cX1_copyFrom : ByteArray := prog_3_method_3_code
def yX1_copyFrom : MethodName := ⟨RX1, "copyFrom", "(LSpiceQuay$Debts;)V"⟩
abbrev cX1_between : ByteArray := prog_3_method_4_code
def yX1_between : MethodName := ⟨RX1, "between", "(II)I"⟩
abbrev cX1_grow : ByteArray := prog_3_method_5_code
def yX1_grow : MethodName := ⟨RX1, "grow", "(III)V"⟩
abbrev cX1_growAll : ByteArray := prog_3_method_6_code
def yX1_growAll : MethodName := ⟨RX1, "growAll", "()V"⟩
abbrev cX1_sumOf : ByteArray := prog_3_method_7_code
def yX1_sumOf : MethodName := ⟨RX1, "sumOf", "(I)I"⟩
abbrev cX1_sumOwedTo : ByteArray := prog_3_method_8_code
def yX1_sumOwedTo : MethodName := ⟨RX1, "sumOwedTo", "(I)I"⟩
abbrev cX1_sumOfAll : ByteArray := prog_3_method_9_code
def yX1_sumOfAll : MethodName := ⟨RX1, "sumOfAll", "()I"⟩
abbrev cX1_fewestFromTo : ByteArray := prog_3_method_10_code
def yX1_fewestFromTo : MethodName := ⟨RX1, "fewestFromTo", "(II)I"⟩
abbrev cX1_reachBy : ByteArray := prog_3_method_11_code
def yX1_reachBy : MethodName := ⟨RX1, "reachBy", "(I)V"⟩
abbrev cX1_widestRing : ByteArray := prog_3_method_12_code
def yX1_widestRing : MethodName := ⟨RX1, "widestRing", "(I)I"⟩
abbrev cX1_widen : ByteArray := prog_3_method_13_code
def yX1_widen : MethodName := ⟨RX1, "widen", "()V"⟩
def RX2 : String := "SpiceQuay$Kind"
def TX2 : u_T := fun k => match k with
  | _ => ("", "", "", false)
def tyX2 : Nat → FieldType := fun k => match k with
  | _ => .int
abbrev wsX20 : List Cond := u_ws RX2 TX2 0
theorem nmX2 : ∀ a, a < 0 → ∀ b, b < 0 → a ≠ b → (TX2 a).2.1 ≠ (TX2 b).2.1 := by decide +kernel
theorem tyX2_ok : ∀ k, k < 0 → parseFieldDescriptor (TX2 k).2.2.1 = some (tyX2 k) := by decide +kernel
abbrev cX2_joinsTests : ByteArray := prog_4_method_2_code
def yX2_joinsTests : MethodName := ⟨RX2, "joinsTests", "(I)Z"⟩
abbrev cX2_compares : ByteArray := prog_4_method_3_code
def yX2_compares : MethodName := ⟨RX2, "compares", "(I)Z"⟩
abbrev cX2_joinsSums : ByteArray := prog_4_method_4_code
def yX2_joinsSums : MethodName := ⟨RX2, "joinsSums", "(I)Z"⟩
def RX3 : String := "SpiceQuay$Names"
def TX3 : u_T := fun k => match k with
  | 0 => ("SpiceQuay$Names", "names", "LSpiceQuay$Row;", true)
  | 1 => ("SpiceQuay$Names", "most", "I", true)
  | _ => ("SpiceQuay$Names", "told", "I", false)
def tyX3 : Nat → FieldType := fun k => match k with
  | 0 => .object "SpiceQuay$Row"
  | 1 => .int
  | _ => .int
abbrev wsX30 : List Cond := u_ws RX3 TX3 3
theorem nmX3 : ∀ a, a < 3 → ∀ b, b < 3 → a ≠ b → (TX3 a).2.1 ≠ (TX3 b).2.1 := by decide +kernel
theorem tyX3_ok : ∀ k, k < 3 → parseFieldDescriptor (TX3 k).2.2.1 = some (tyX3 k) := by decide +kernel
abbrev cX3_init : ByteArray := prog_5_method_1_code
def yX3_init : MethodName := ⟨RX3, "<init>", "(I)V"⟩
abbrev cX3_forget : ByteArray := prog_5_method_2_code
def yX3_forget : MethodName := ⟨RX3, "forget", "()V"⟩
abbrev cX3_told : ByteArray := prog_5_method_3_code
def yX3_told : MethodName := ⟨RX3, "told", "()I"⟩
abbrev cX3_isFull : ByteArray := prog_5_method_4_code
def yX3_isFull : MethodName := ⟨RX3, "isFull", "()Z"⟩
abbrev cX3_find : ByteArray := prog_5_method_5_code
def yX3_find : MethodName := ⟨RX3, "find", "(I)I"⟩
abbrev cX3_add : ByteArray := prog_5_method_6_code
def yX3_add : MethodName := ⟨RX3, "add", "(I)I"⟩
def RX4 : String := "SpiceQuay$Plan"
def TX4 : u_T := fun k => match k with
  | 0 => ("SpiceQuay$Plan", "spices", "I", false)
  | 1 => ("SpiceQuay$Plan", "guilds", "I", false)
  | 2 => ("SpiceQuay$Plan", "merchants", "I", false)
  | 3 => ("SpiceQuay$Plan", "lots", "I", false)
  | 4 => ("SpiceQuay$Plan", "orders", "I", false)
  | 5 => ("SpiceQuay$Plan", "loss", "LSpiceQuay$Row;", true)
  | 6 => ("SpiceQuay$Plan", "fee", "LSpiceQuay$Row;", true)
  | 7 => ("SpiceQuay$Plan", "bias", "LSpiceQuay$Row;", true)
  | 8 => ("SpiceQuay$Plan", "coins", "LSpiceQuay$Row;", true)
  | 9 => ("SpiceQuay$Plan", "credit", "LSpiceQuay$Row;", true)
  | 10 => ("SpiceQuay$Plan", "spice", "LSpiceQuay$Row;", true)
  | 11 => ("SpiceQuay$Plan", "sacks", "LSpiceQuay$Row;", true)
  | 12 => ("SpiceQuay$Plan", "owner", "LSpiceQuay$Row;", true)
  | 13 => ("SpiceQuay$Plan", "deed", "LSpiceQuay$Row;", true)
  | 14 => ("SpiceQuay$Plan", "doer", "LSpiceQuay$Row;", true)
  | 15 => ("SpiceQuay$Plan", "other", "LSpiceQuay$Row;", true)
  | 16 => ("SpiceQuay$Plan", "sumFrom", "LSpiceQuay$Row;", true)
  | 17 => ("SpiceQuay$Plan", "testFrom", "LSpiceQuay$Row;", true)
  | 18 => ("SpiceQuay$Plan", "testEnd", "LSpiceQuay$Row;", true)
  | _ => ("SpiceQuay$Plan", "steps", "LSpiceQuay$Steps;", true)
def tyX4 : Nat → FieldType := fun k => match k with
  | 0 => .int
  | 1 => .int
  | 2 => .int
  | 3 => .int
  | 4 => .int
  | 5 => .object "SpiceQuay$Row"
  | 6 => .object "SpiceQuay$Row"
  | 7 => .object "SpiceQuay$Row"
  | 8 => .object "SpiceQuay$Row"
  | 9 => .object "SpiceQuay$Row"
  | 10 => .object "SpiceQuay$Row"
  | 11 => .object "SpiceQuay$Row"
  | 12 => .object "SpiceQuay$Row"
  | 13 => .object "SpiceQuay$Row"
  | 14 => .object "SpiceQuay$Row"
  | 15 => .object "SpiceQuay$Row"
  | 16 => .object "SpiceQuay$Row"
  | 17 => .object "SpiceQuay$Row"
  | 18 => .object "SpiceQuay$Row"
  | _ => .object "SpiceQuay$Steps"
abbrev wsX40 : List Cond := u_ws RX4 TX4 20
theorem nmX4 : ∀ a, a < 20 → ∀ b, b < 20 → a ≠ b → (TX4 a).2.1 ≠ (TX4 b).2.1 := by decide +kernel
theorem tyX4_ok : ∀ k, k < 20 → parseFieldDescriptor (TX4 k).2.2.1 = some (tyX4 k) := by decide +kernel
abbrev cX4_init : ByteArray := prog_6_method_1_code
def yX4_init : MethodName := ⟨RX4, "<init>", "()V"⟩
abbrev cX4_copyFrom : ByteArray := prog_6_method_2_code
def yX4_copyFrom : MethodName := ⟨RX4, "copyFrom", "(LSpiceQuay$Plan;)V"⟩
def RX5 : String := "SpiceQuay$Reader"
def TX5 : u_T := fun k => match k with
  | 0 => ("SpiceQuay$Reader", "draft", "LSpiceQuay$Plan;", true)
  | 1 => ("SpiceQuay$Reader", "tokens", "LSpiceQuay$Tokens;", true)
  | 2 => ("SpiceQuay$Reader", "spices", "LSpiceQuay$Names;", true)
  | 3 => ("SpiceQuay$Reader", "guilds", "LSpiceQuay$Names;", true)
  | 4 => ("SpiceQuay$Reader", "merchants", "LSpiceQuay$Names;", true)
  | 5 => ("SpiceQuay$Reader", "lots", "LSpiceQuay$Names;", true)
  | 6 => ("SpiceQuay$Reader", "next", "I", false)
  | 7 => ("SpiceQuay$Reader", "fault", "I", false)
  | _ => ("SpiceQuay$Reader", "faultToken", "I", false)
def tyX5 : Nat → FieldType := fun k => match k with
  | 0 => .object "SpiceQuay$Plan"
  | 1 => .object "SpiceQuay$Tokens"
  | 2 => .object "SpiceQuay$Names"
  | 3 => .object "SpiceQuay$Names"
  | 4 => .object "SpiceQuay$Names"
  | 5 => .object "SpiceQuay$Names"
  | 6 => .int
  | 7 => .int
  | _ => .int
abbrev wsX50 : List Cond := u_ws RX5 TX5 9
theorem nmX5 : ∀ a, a < 9 → ∀ b, b < 9 → a ≠ b → (TX5 a).2.1 ≠ (TX5 b).2.1 := by decide +kernel
theorem tyX5_ok : ∀ k, k < 9 → parseFieldDescriptor (TX5 k).2.2.1 = some (tyX5 k) := by decide +kernel
abbrev cX5_init : ByteArray := prog_7_method_1_code
def yX5_init : MethodName := ⟨RX5, "<init>", "(LSpiceQuay$Tokens;)V"⟩
abbrev cX5_faultPlace : ByteArray := prog_7_method_2_code
def yX5_faultPlace : MethodName := ⟨RX5, "faultPlace", "()I"⟩
abbrev cX5_read : ByteArray := prog_7_method_3_code
def yX5_read : MethodName := ⟨RX5, "read", "()I"⟩
abbrev cX5_begin : ByteArray := prog_7_method_4_code
def yX5_begin : MethodName := ⟨RX5, "begin", "()V"⟩
abbrev cX5_spiceLine : ByteArray := prog_7_method_5_code
def yX5_spiceLine : MethodName := ⟨RX5, "spiceLine", "()V"⟩
abbrev cX5_guildLine : ByteArray := prog_7_method_6_code
def yX5_guildLine : MethodName := ⟨RX5, "guildLine", "()V"⟩
abbrev cX5_merchantLine : ByteArray := prog_7_method_7_code
def yX5_merchantLine : MethodName := ⟨RX5, "merchantLine", "()V"⟩
abbrev cX5_lotLine : ByteArray := prog_7_method_8_code
def yX5_lotLine : MethodName := ⟨RX5, "lotLine", "()V"⟩
abbrev cX5_orderLine : ByteArray := prog_7_method_9_code
def yX5_orderLine : MethodName := ⟨RX5, "orderLine", "(I)V"⟩
abbrev cX5_test : ByteArray := prog_7_method_10_code
def yX5_test : MethodName := ⟨RX5, "test", "(I)V"⟩
abbrev cX5_both : ByteArray := prog_7_method_11_code
def yX5_both : MethodName := ⟨RX5, "both", "(I)V"⟩
abbrev cX5_single : ByteArray := prog_7_method_12_code
def yX5_single : MethodName := ⟨RX5, "single", "(I)V"⟩
abbrev cX5_turnedTest : ByteArray := prog_7_method_13_code
def yX5_turnedTest : MethodName := ⟨RX5, "turnedTest", "(I)V"⟩
abbrev cX5_testInBrackets : ByteArray := prog_7_method_14_code
def yX5_testInBrackets : MethodName := ⟨RX5, "testInBrackets", "(I)V"⟩
abbrev cX5_sum : ByteArray := prog_7_method_15_code
def yX5_sum : MethodName := ⟨RX5, "sum", "(I)V"⟩
abbrev cX5_product : ByteArray := prog_7_method_16_code
def yX5_product : MethodName := ⟨RX5, "product", "(I)V"⟩
abbrev cX5_value : ByteArray := prog_7_method_17_code
def yX5_value : MethodName := ⟨RX5, "value", "(I)V"⟩
abbrev cX5_turnedValue : ByteArray := prog_7_method_18_code
def yX5_turnedValue : MethodName := ⟨RX5, "turnedValue", "(I)V"⟩
abbrev cX5_sumInBrackets : ByteArray := prog_7_method_19_code
def yX5_sumInBrackets : MethodName := ⟨RX5, "sumInBrackets", "(I)V"⟩
abbrev cX5_oneOfTwoSums : ByteArray := prog_7_method_20_code
def yX5_oneOfTwoSums : MethodName := ⟨RX5, "oneOfTwoSums", "(II)V"⟩
abbrev cX5_seen : ByteArray := prog_7_method_21_code
def yX5_seen : MethodName := ⟨RX5, "seen", "()I"⟩
abbrev cX5_take : ByteArray := prog_7_method_22_code
def yX5_take : MethodName := ⟨RX5, "take", "(I)V"⟩
abbrev cX5_goesDeeper : ByteArray := prog_7_method_23_code
def yX5_goesDeeper : MethodName := ⟨RX5, "goesDeeper", "(II)Z"⟩
abbrev cX5_takeComparison : ByteArray := prog_7_method_24_code
def yX5_takeComparison : MethodName := ⟨RX5, "takeComparison", "()I"⟩
abbrev cX5_takeNewName : ByteArray := prog_7_method_25_code
def yX5_takeNewName : MethodName := ⟨RX5, "takeNewName", "(LSpiceQuay$Names;)I"⟩
abbrev cX5_takeName : ByteArray := prog_7_method_26_code
def yX5_takeName : MethodName := ⟨RX5, "takeName", "(LSpiceQuay$Names;)I"⟩
abbrev cX5_takeNumber : ByteArray := prog_7_method_27_code
def yX5_takeNumber : MethodName := ⟨RX5, "takeNumber", "(II)I"⟩
abbrev cX5_blame : ByteArray := prog_7_method_28_code
def yX5_blame : MethodName := ⟨RX5, "blame", "(II)V"⟩
abbrev cX5_fail : ByteArray := prog_7_method_29_code
def yX5_fail : MethodName := ⟨RX5, "fail", "()V"⟩
def RX6 : String := "SpiceQuay$Reckoner"
def TX6 : u_T := fun k => match k with
  | 0 => ("SpiceQuay$Reckoner", "steps", "LSpiceQuay$Steps;", true)
  | 1 => ("SpiceQuay$Reckoner", "stand", "LSpiceQuay$Stand;", true)
  | 2 => ("SpiceQuay$Reckoner", "heap", "LSpiceQuay$Row;", true)
  | _ => ("SpiceQuay$Reckoner", "height", "I", false)
def tyX6 : Nat → FieldType := fun k => match k with
  | 0 => .object "SpiceQuay$Steps"
  | 1 => .object "SpiceQuay$Stand"
  | 2 => .object "SpiceQuay$Row"
  | _ => .int
abbrev wsX60 : List Cond := u_ws RX6 TX6 4
theorem nmX6 : ∀ a, a < 4 → ∀ b, b < 4 → a ≠ b → (TX6 a).2.1 ≠ (TX6 b).2.1 := by decide +kernel
theorem tyX6_ok : ∀ k, k < 4 → parseFieldDescriptor (TX6 k).2.2.1 = some (tyX6 k) := by decide +kernel
abbrev cX6_init : ByteArray := prog_8_method_1_code
def yX6_init : MethodName := ⟨RX6, "<init>", "(LSpiceQuay$Steps;LSpiceQuay$Stand;)V"⟩
abbrev cX6_reckon : ByteArray := prog_8_method_2_code
def yX6_reckon : MethodName := ⟨RX6, "reckon", "(II)I"⟩
abbrev cX6_put : ByteArray := prog_8_method_3_code
def yX6_put : MethodName := ⟨RX6, "put", "(I)V"⟩
abbrev cX6_take : ByteArray := prog_8_method_4_code
def yX6_take : MethodName := ⟨RX6, "take", "()I"⟩
abbrev cX6_value : ByteArray := prog_8_method_5_code
def yX6_value : MethodName := ⟨RX6, "value", "(III)I"⟩
abbrev cX6_joined : ByteArray := prog_8_method_6_code
def yX6_joined : MethodName := ⟨RX6, "joined", "(III)I"⟩
abbrev cX6_holds : ByteArray := prog_8_method_7_code
def yX6_holds : MethodName := ⟨RX6, "holds", "(III)Z"⟩
def RX7 : String := "SpiceQuay$Row"
def TX7 : u_T := fun k => match k with
  | _ => ("SpiceQuay$Row", "cells", "[I", true)
def tyX7 : Nat → FieldType := fun k => match k with
  | _ => .array .int
abbrev wsX70 : List Cond := u_ws RX7 TX7 1
theorem nmX7 : ∀ a, a < 1 → ∀ b, b < 1 → a ≠ b → (TX7 a).2.1 ≠ (TX7 b).2.1 := by decide +kernel
theorem tyX7_ok : ∀ k, k < 1 → parseFieldDescriptor (TX7 k).2.2.1 = some (tyX7 k) := by decide +kernel
abbrev cX7_init : ByteArray := prog_9_method_1_code
def yX7_init : MethodName := ⟨RX7, "<init>", "(I)V"⟩
abbrev cX7_get : ByteArray := prog_9_method_2_code
def yX7_get : MethodName := ⟨RX7, "get", "(I)I"⟩
abbrev cX7_set : ByteArray := prog_9_method_3_code
def yX7_set : MethodName := ⟨RX7, "set", "(II)V"⟩
abbrev cX7_add : ByteArray := prog_9_method_4_code
def yX7_add : MethodName := ⟨RX7, "add", "(II)V"⟩
abbrev cX7_fill : ByteArray := prog_9_method_5_code
def yX7_fill : MethodName := ⟨RX7, "fill", "(I)V"⟩
abbrev cX7_copyFrom : ByteArray := prog_9_method_6_code
def yX7_copyFrom : MethodName := ⟨RX7, "copyFrom", "(LSpiceQuay$Row;)V"⟩
abbrev cX7_sum : ByteArray := prog_9_method_7_code
def yX7_sum : MethodName := ⟨RX7, "sum", "()I"⟩
def RX8 : String := "SpiceQuay$Stand"
def TX8 : u_T := fun k => match k with
  | 0 => ("SpiceQuay$Stand", "plan", "LSpiceQuay$Plan;", true)
  | 1 => ("SpiceQuay$Stand", "day", "I", false)
  | 2 => ("SpiceQuay$Stand", "damp", "I", false)
  | 3 => ("SpiceQuay$Stand", "sold", "I", false)
  | 4 => ("SpiceQuay$Stand", "weighed", "I", false)
  | 5 => ("SpiceQuay$Stand", "paid", "I", false)
  | 6 => ("SpiceQuay$Stand", "weight", "LSpiceQuay$Row;", true)
  | 7 => ("SpiceQuay$Stand", "owner", "LSpiceQuay$Row;", true)
  | 8 => ("SpiceQuay$Stand", "chopGuild", "LSpiceQuay$Row;", true)
  | 9 => ("SpiceQuay$Stand", "chopWeight", "LSpiceQuay$Row;", true)
  | 10 => ("SpiceQuay$Stand", "chopDay", "LSpiceQuay$Row;", true)
  | 11 => ("SpiceQuay$Stand", "coins", "LSpiceQuay$Row;", true)
  | 12 => ("SpiceQuay$Stand", "debts", "LSpiceQuay$Debts;", true)
  | 13 => ("SpiceQuay$Stand", "earned", "LSpiceQuay$Row;", true)
  | _ => ("SpiceQuay$Stand", "done", "LSpiceQuay$Row;", true)
def tyX8 : Nat → FieldType := fun k => match k with
  | 0 => .object "SpiceQuay$Plan"
  | 1 => .int
  | 2 => .int
  | 3 => .int
  | 4 => .int
  | 5 => .int
  | 6 => .object "SpiceQuay$Row"
  | 7 => .object "SpiceQuay$Row"
  | 8 => .object "SpiceQuay$Row"
  | 9 => .object "SpiceQuay$Row"
  | 10 => .object "SpiceQuay$Row"
  | 11 => .object "SpiceQuay$Row"
  | 12 => .object "SpiceQuay$Debts"
  | 13 => .object "SpiceQuay$Row"
  | _ => .object "SpiceQuay$Row"
abbrev wsX80 : List Cond := u_ws RX8 TX8 15
theorem nmX8 : ∀ a, a < 15 → ∀ b, b < 15 → a ≠ b → (TX8 a).2.1 ≠ (TX8 b).2.1 := by decide +kernel
theorem tyX8_ok : ∀ k, k < 15 → parseFieldDescriptor (TX8 k).2.2.1 = some (tyX8 k) := by decide +kernel
abbrev cX8_init : ByteArray := prog_10_method_1_code
def yX8_init : MethodName := ⟨RX8, "<init>", "(LSpiceQuay$Plan;)V"⟩
abbrev cX8_begin : ByteArray := prog_10_method_2_code
def yX8_begin : MethodName := ⟨RX8, "begin", "()V"⟩
abbrev cX8_copyFrom : ByteArray := prog_10_method_3_code
def yX8_copyFrom : MethodName := ⟨RX8, "copyFrom", "(LSpiceQuay$Stand;)V"⟩
abbrev cX8_loseWeight : ByteArray := prog_10_method_4_code
def yX8_loseWeight : MethodName := ⟨RX8, "loseWeight", "()V"⟩
abbrev cX8_moveCoins : ByteArray := prog_10_method_5_code
def yX8_moveCoins : MethodName := ⟨RX8, "moveCoins", "(III)V"⟩
abbrev cX8_setChop : ByteArray := prog_10_method_6_code
def yX8_setChop : MethodName := ⟨RX8, "setChop", "(III)V"⟩
abbrev cX8_takeChop : ByteArray := prog_10_method_7_code
def yX8_takeChop : MethodName := ⟨RX8, "takeChop", "(I)V"⟩
abbrev cX8_ageOfChop : ByteArray := prog_10_method_8_code
def yX8_ageOfChop : MethodName := ⟨RX8, "ageOfChop", "(I)I"⟩
abbrev cX8_canBeSold : ByteArray := prog_10_method_9_code
def yX8_canBeSold : MethodName := ⟨RX8, "canBeSold", "(I)Z"⟩
abbrev cX8_isOverCredit : ByteArray := prog_10_method_10_code
def yX8_isOverCredit : MethodName := ⟨RX8, "isOverCredit", "(I)Z"⟩
abbrev cX8_wealthOf : ByteArray := prog_10_method_11_code
def yX8_wealthOf : MethodName := ⟨RX8, "wealthOf", "(I)I"⟩
abbrev cX8_weightOfAll : ByteArray := prog_10_method_12_code
def yX8_weightOfAll : MethodName := ⟨RX8, "weightOfAll", "()I"⟩
abbrev cX8_tellAll : ByteArray := prog_10_method_13_code
def yX8_tellAll : MethodName := ⟨RX8, "tellAll", "(I)I"⟩
abbrev cX8_tellLot : ByteArray := prog_10_method_14_code
def yX8_tellLot : MethodName := ⟨RX8, "tellLot", "(II)I"⟩
abbrev cX8_tellMerchant : ByteArray := prog_10_method_15_code
def yX8_tellMerchant : MethodName := ⟨RX8, "tellMerchant", "(II)I"⟩
abbrev cX8_tellGuild : ByteArray := prog_10_method_16_code
def yX8_tellGuild : MethodName := ⟨RX8, "tellGuild", "(II)I"⟩
abbrev cX8_lotsOf : ByteArray := prog_10_method_17_code
def yX8_lotsOf : MethodName := ⟨RX8, "lotsOf", "(I)I"⟩
abbrev cX8_weightOfLotsOf : ByteArray := prog_10_method_18_code
def yX8_weightOfLotsOf : MethodName := ⟨RX8, "weightOfLotsOf", "(I)I"⟩
abbrev cX8_lotsWithChopOf : ByteArray := prog_10_method_19_code
def yX8_lotsWithChopOf : MethodName := ⟨RX8, "lotsWithChopOf", "(I)I"⟩
def RX9 : String := "SpiceQuay$Steps"
def TX9 : u_T := fun k => match k with
  | 0 => ("SpiceQuay$Steps", "told", "I", false)
  | 1 => ("SpiceQuay$Steps", "kind", "LSpiceQuay$Row;", true)
  | 2 => ("SpiceQuay$Steps", "one", "LSpiceQuay$Row;", true)
  | _ => ("SpiceQuay$Steps", "other", "LSpiceQuay$Row;", true)
def tyX9 : Nat → FieldType := fun k => match k with
  | 0 => .int
  | 1 => .object "SpiceQuay$Row"
  | 2 => .object "SpiceQuay$Row"
  | _ => .object "SpiceQuay$Row"
abbrev wsX90 : List Cond := u_ws RX9 TX9 4
theorem nmX9 : ∀ a, a < 4 → ∀ b, b < 4 → a ≠ b → (TX9 a).2.1 ≠ (TX9 b).2.1 := by decide +kernel
theorem tyX9_ok : ∀ k, k < 4 → parseFieldDescriptor (TX9 k).2.2.1 = some (tyX9 k) := by decide +kernel
abbrev cX9_init : ByteArray := prog_11_method_1_code
def yX9_init : MethodName := ⟨RX9, "<init>", "()V"⟩
abbrev cX9_add : ByteArray := prog_11_method_2_code
def yX9_add : MethodName := ⟨RX9, "add", "(III)V"⟩
abbrev cX9_copyFrom : ByteArray := prog_11_method_3_code
def yX9_copyFrom : MethodName := ⟨RX9, "copyFrom", "(LSpiceQuay$Steps;)V"⟩
def RX10 : String := "SpiceQuay$Tokens"
def TX10 : u_T := fun k => match k with
  | 0 => ("SpiceQuay$Tokens", "tape", "LSpiceQuay$Row;", true)
  | 1 => ("SpiceQuay$Tokens", "bytes", "I", false)
  | 2 => ("SpiceQuay$Tokens", "found", "I", false)
  | 3 => ("SpiceQuay$Tokens", "kind", "LSpiceQuay$Row;", true)
  | 4 => ("SpiceQuay$Tokens", "place", "LSpiceQuay$Row;", true)
  | 5 => ("SpiceQuay$Tokens", "length", "LSpiceQuay$Row;", true)
  | _ => ("SpiceQuay$Tokens", "value", "LSpiceQuay$Row;", true)
def tyX10 : Nat → FieldType := fun k => match k with
  | 0 => .object "SpiceQuay$Row"
  | 1 => .int
  | 2 => .int
  | 3 => .object "SpiceQuay$Row"
  | 4 => .object "SpiceQuay$Row"
  | 5 => .object "SpiceQuay$Row"
  | _ => .object "SpiceQuay$Row"
abbrev wsX100 : List Cond := u_ws RX10 TX10 7
theorem nmX10 : ∀ a, a < 7 → ∀ b, b < 7 → a ≠ b → (TX10 a).2.1 ≠ (TX10 b).2.1 := by decide +kernel
theorem tyX10_ok : ∀ k, k < 7 → parseFieldDescriptor (TX10 k).2.2.1 = some (tyX10 k) := by decide +kernel
abbrev cX10_init : ByteArray := prog_12_method_1_code
def yX10_init : MethodName := ⟨RX10, "<init>", "(LSpiceQuay$Row;)V"⟩
abbrev cX10_scan : ByteArray := prog_12_method_2_code
def yX10_scan : MethodName := ⟨RX10, "scan", "(I)V"⟩
abbrev cX10_behindBlanks : ByteArray := prog_12_method_3_code
def yX10_behindBlanks : MethodName := ⟨RX10, "behindBlanks", "(I)I"⟩
abbrev cX10_reads : ByteArray := prog_12_method_4_code
def yX10_reads : MethodName := ⟨RX10, "reads", "(I)Z"⟩
abbrev cX10_readsWord : ByteArray := prog_12_method_5_code
def yX10_readsWord : MethodName := ⟨RX10, "readsWord", "(I)Z"⟩
abbrev cX10_readsNumber : ByteArray := prog_12_method_6_code
def yX10_readsNumber : MethodName := ⟨RX10, "readsNumber", "(I)Z"⟩
abbrev cX10_readsSign : ByteArray := prog_12_method_7_code
def yX10_readsSign : MethodName := ⟨RX10, "readsSign", "(II)Z"⟩
abbrev cX10_keyword : ByteArray := prog_12_method_8_code
def yX10_keyword : MethodName := ⟨RX10, "keyword", "(II)I"⟩
abbrev cX10_spells : ByteArray := prog_12_method_9_code
def yX10_spells : MethodName := ⟨RX10, "spells", "(III)Z"⟩
abbrev cX10_firstWithName : ByteArray := prog_12_method_10_code
def yX10_firstWithName : MethodName := ⟨RX10, "firstWithName", "(II)I"⟩
abbrev cX10_isSame : ByteArray := prog_12_method_11_code
def yX10_isSame : MethodName := ⟨RX10, "isSame", "(III)Z"⟩
abbrev cX10_add : ByteArray := prog_12_method_12_code
def yX10_add : MethodName := ⟨RX10, "add", "(IIII)V"⟩
abbrev cX10_isLetter : ByteArray := prog_12_method_13_code
def yX10_isLetter : MethodName := ⟨RX10, "isLetter", "(I)Z"⟩
abbrev cX10_isDigit : ByteArray := prog_12_method_14_code
def yX10_isDigit : MethodName := ⟨RX10, "isDigit", "(I)Z"⟩
def RX11 : String := "SpiceQuay"
def TX11 : u_T := fun k => match k with
  | 0 => ("SpiceQuay", "tape", "LSpiceQuay$Row;", true)
  | 1 => ("SpiceQuay", "tokens", "LSpiceQuay$Tokens;", true)
  | 2 => ("SpiceQuay", "reader", "LSpiceQuay$Reader;", true)
  | 3 => ("SpiceQuay", "plan", "LSpiceQuay$Plan;", true)
  | 4 => ("SpiceQuay", "now", "LSpiceQuay$Stand;", true)
  | 5 => ("SpiceQuay", "days", "LSpiceQuay$Days;", true)
  | 6 => ("SpiceQuay", "ahead", "LSpiceQuay$Stand;", true)
  | 7 => ("SpiceQuay", "daysAhead", "LSpiceQuay$Days;", true)
  | 8 => ("SpiceQuay", "bytes", "I", false)
  | _ => ("SpiceQuay", "errorPlace", "I", false)
def tyX11 : Nat → FieldType := fun k => match k with
  | 0 => .object "SpiceQuay$Row"
  | 1 => .object "SpiceQuay$Tokens"
  | 2 => .object "SpiceQuay$Reader"
  | 3 => .object "SpiceQuay$Plan"
  | 4 => .object "SpiceQuay$Stand"
  | 5 => .object "SpiceQuay$Days"
  | 6 => .object "SpiceQuay$Stand"
  | 7 => .object "SpiceQuay$Days"
  | 8 => .int
  | _ => .int
abbrev wsX110 : List Cond := u_ws RX11 TX11 10
theorem nmX11 : ∀ a, a < 10 → ∀ b, b < 10 → a ≠ b → (TX11 a).2.1 ≠ (TX11 b).2.1 := by decide +kernel
theorem tyX11_ok : ∀ k, k < 10 → parseFieldDescriptor (TX11 k).2.2.1 = some (tyX11 k) := by decide +kernel
abbrev cX11_init : ByteArray := prog_1_method_1_code
def yX11_init : MethodName := ⟨RX11, "<init>", "()V"⟩
abbrev cX11_feed : ByteArray := prog_1_method_2_code
def yX11_feed : MethodName := ⟨RX11, "feed", "(IIIII)I"⟩
abbrev cX11_trim : ByteArray := prog_1_method_3_code
def yX11_trim : MethodName := ⟨RX11, "trim", "(I)I"⟩
abbrev cX11_teach : ByteArray := prog_1_method_4_code
def yX11_teach : MethodName := ⟨RX11, "teach", "()I"⟩
abbrev cX11_count : ByteArray := prog_1_method_6_code
def yX11_count : MethodName := ⟨RX11, "count", "(I)I"⟩
abbrev cX11_lot : ByteArray := prog_1_method_7_code
def yX11_lot : MethodName := ⟨RX11, "lot", "(II)I"⟩
abbrev cX11_merchant : ByteArray := prog_1_method_8_code
def yX11_merchant : MethodName := ⟨RX11, "merchant", "(II)I"⟩
abbrev cX11_guild : ByteArray := prog_1_method_9_code
def yX11_guild : MethodName := ⟨RX11, "guild", "(II)I"⟩
abbrev cX11_order : ByteArray := prog_1_method_10_code
def yX11_order : MethodName := ⟨RX11, "order", "(II)I"⟩
abbrev cX11_owes : ByteArray := prog_1_method_11_code
def yX11_owes : MethodName := ⟨RX11, "owes", "(II)I"⟩
abbrev cX11_chain : ByteArray := prog_1_method_12_code
def yX11_chain : MethodName := ⟨RX11, "chain", "(II)I"⟩
abbrev cX11_ring : ByteArray := prog_1_method_13_code
def yX11_ring : MethodName := ⟨RX11, "ring", "(I)I"⟩
abbrev cX11_setDamp : ByteArray := prog_1_method_14_code
def yX11_setDamp : MethodName := ⟨RX11, "setDamp", "(I)I"⟩
abbrev cX11_lend : ByteArray := prog_1_method_15_code
def yX11_lend : MethodName := ⟨RX11, "lend", "(III)I"⟩
abbrev cX11_offset : ByteArray := prog_1_method_16_code
def yX11_offset : MethodName := ⟨RX11, "offset", "(II)I"⟩
abbrev cX11_dry : ByteArray := prog_1_method_17_code
def yX11_dry : MethodName := ⟨RX11, "dry", "(I)I"⟩
abbrev cX11_pass : ByteArray := prog_1_method_18_code
def yX11_pass : MethodName := ⟨RX11, "pass", "(I)I"⟩
abbrev cX11_foresee : ByteArray := prog_1_method_19_code
def yX11_foresee : MethodName := ⟨RX11, "foresee", "(II)I"⟩
abbrev cX11_costs : ByteArray := prog_1_method_20_code
def yX11_costs : MethodName := ⟨RX11, "costs", "(II)I"⟩
abbrev cX11_richest : ByteArray := prog_1_method_21_code
def yX11_richest : MethodName := ⟨RX11, "richest", "(I)I"⟩
abbrev cX11_until : ByteArray := prog_1_method_22_code
def yX11_until : MethodName := ⟨RX11, "until", "(I)I"⟩
abbrev cX11_mean : ByteArray := prog_1_method_23_code
def yX11_mean : MethodName := ⟨RX11, "mean", "()D"⟩
abbrev cX11_digest : ByteArray := prog_1_method_24_code
def yX11_digest : MethodName := ⟨RX11, "digest", "()J"⟩
abbrev cX11_append : ByteArray := prog_1_method_25_code
def yX11_append : MethodName := ⟨RX11, "append", "(I)V"⟩
abbrev cX11_isLot : ByteArray := prog_1_method_26_code
def yX11_isLot : MethodName := ⟨RX11, "isLot", "(I)Z"⟩
abbrev cX11_isMerchant : ByteArray := prog_1_method_27_code
def yX11_isMerchant : MethodName := ⟨RX11, "isMerchant", "(I)Z"⟩
abbrev cX11_counted : ByteArray := prog_1_method_28_code
def yX11_counted : MethodName := ⟨RX11, "counted", "(I)I"⟩
abbrev cX11_tellOrder : ByteArray := prog_1_method_29_code
def yX11_tellOrder : MethodName := ⟨RX11, "tellOrder", "(II)I"⟩
abbrev cX11_digestOfLots : ByteArray := prog_1_method_30_code
def yX11_digestOfLots : MethodName := ⟨RX11, "digestOfLots", "(J)J"⟩
abbrev cX11_digestOfMerchants : ByteArray := prog_1_method_31_code
def yX11_digestOfMerchants : MethodName := ⟨RX11, "digestOfMerchants", "(J)J"⟩
abbrev cX11_digestOfGuilds : ByteArray := prog_1_method_32_code
def yX11_digestOfGuilds : MethodName := ⟨RX11, "digestOfGuilds", "(J)J"⟩
abbrev cX11_digestOfOrders : ByteArray := prog_1_method_33_code
def yX11_digestOfOrders : MethodName := ⟨RX11, "digestOfOrders", "(J)J"⟩
def RX12 : String := "SpiceQuayLaw$Sim"
def TX12 : u_T := fun k => match k with
  | 0 => ("SpiceQuayLaw$Sim", "day", "I", false)
  | 1 => ("SpiceQuayLaw$Sim", "damp", "I", false)
  | 2 => ("SpiceQuayLaw$Sim", "losses", "[I", false)
  | 3 => ("SpiceQuayLaw$Sim", "guilds", "[[I", false)
  | 4 => ("SpiceQuayLaw$Sim", "merchants", "[[I", false)
  | 5 => ("SpiceQuayLaw$Sim", "owes", "[[I", false)
  | 6 => ("SpiceQuayLaw$Sim", "lots", "[[I", false)
  | 7 => ("SpiceQuayLaw$Sim", "orders", "[[I", false)
  | _ => ("SpiceQuayLaw$Sim", "done", "[I", false)
def tyX12 : Nat → FieldType := fun k => match k with
  | 0 => .int
  | 1 => .int
  | 2 => .array .int
  | 3 => .array (.array .int)
  | 4 => .array (.array .int)
  | 5 => .array (.array .int)
  | 6 => .array (.array .int)
  | 7 => .array (.array .int)
  | _ => .array .int
abbrev wsX120 : List Cond := u_ws RX12 TX12 9
theorem nmX12 : ∀ a, a < 9 → ∀ b, b < 9 → a ≠ b → (TX12 a).2.1 ≠ (TX12 b).2.1 := by decide +kernel
theorem tyX12_ok : ∀ k, k < 9 → parseFieldDescriptor (TX12 k).2.2.1 = some (tyX12 k) := by decide +kernel
abbrev cX12_init : ByteArray := prog_14_method_1_code
def yX12_init : MethodName := ⟨RX12, "<init>", "()V"⟩
abbrev cX12_debts : ByteArray := prog_14_method_2_code
def yX12_debts : MethodName := ⟨RX12, "debts", "(I)I"⟩
abbrev cX12_owed : ByteArray := prog_14_method_3_code
def yX12_owed : MethodName := ⟨RX12, "owed", "(I)I"⟩
abbrev cX12_age : ByteArray := prog_14_method_4_code
def yX12_age : MethodName := ⟨RX12, "age", "([I)I"⟩
abbrev cX12_sum : ByteArray := prog_14_method_5_code
def yX12_sum : MethodName := ⟨RX12, "sum", "([I)I"⟩
abbrev cX12_holds : ByteArray := prog_14_method_6_code
def yX12_holds : MethodName := ⟨RX12, "holds", "([I)Z"⟩
abbrev cX12_does : ByteArray := prog_14_method_7_code
def yX12_does : MethodName := ⟨RX12, "does", "([I)I"⟩
abbrev cX12_carry : ByteArray := prog_14_method_8_code
def yX12_carry : MethodName := ⟨RX12, "carry", "([I)Z"⟩
abbrev cX12_lose : ByteArray := prog_14_method_9_code
def yX12_lose : MethodName := ⟨RX12, "lose", "()V"⟩
abbrev cX12_pass : ByteArray := prog_14_method_10_code
def yX12_pass : MethodName := ⟨RX12, "pass", "()I"⟩
abbrev cX12_weight : ByteArray := prog_14_method_11_code
def yX12_weight : MethodName := ⟨RX12, "weight", "()I"⟩
abbrev cX12_chain : ByteArray := prog_14_method_12_code
def yX12_chain : MethodName := ⟨RX12, "chain", "(II)I"⟩
abbrev cX12_back : ByteArray := prog_14_method_13_code
def yX12_back : MethodName := ⟨RX12, "back", "(III[Z)I"⟩
abbrev cX12_ring : ByteArray := prog_14_method_14_code
def yX12_ring : MethodName := ⟨RX12, "ring", "(I)I"⟩
abbrev cX12_counts : ByteArray := prog_14_method_15_code
def yX12_counts : MethodName := ⟨RX12, "counts", "()[I"⟩
abbrev cX12_isSame : ByteArray := prog_14_method_18_code
def yX12_isSame : MethodName := ⟨RX12, "isSame", "(LSpiceQuay;)Z"⟩
def RX13 : String := "SpiceQuayModel$Sheet"
def TX13 : u_T := fun k => match k with
  | _ => ("", "", "", false)
def tyX13 : Nat → FieldType := fun k => match k with
  | _ => .int
abbrev wsX130 : List Cond := u_ws RX13 TX13 0
theorem nmX13 : ∀ a, a < 0 → ∀ b, b < 0 → a ≠ b → (TX13 a).2.1 ≠ (TX13 b).2.1 := by decide +kernel
theorem tyX13_ok : ∀ k, k < 0 → parseFieldDescriptor (TX13 k).2.2.1 = some (tyX13 k) := by decide +kernel
def RX14 : String := "SpiceQuayModel$State"
def TX14 : u_T := fun k => match k with
  | _ => ("", "", "", false)
def tyX14 : Nat → FieldType := fun k => match k with
  | _ => .int
abbrev wsX140 : List Cond := u_ws RX14 TX14 0
theorem nmX14 : ∀ a, a < 0 → ∀ b, b < 0 → a ≠ b → (TX14 a).2.1 ≠ (TX14 b).2.1 := by decide +kernel
theorem tyX14_ok : ∀ k, k < 0 → parseFieldDescriptor (TX14 k).2.2.1 = some (tyX14 k) := by decide +kernel
def RX15 : String := "SpiceQuayModel"
def TX15 : u_T := fun k => match k with
  | _ => ("", "", "", false)
def tyX15 : Nat → FieldType := fun k => match k with
  | _ => .int
abbrev wsX150 : List Cond := u_ws RX15 TX15 0
theorem nmX15 : ∀ a, a < 0 → ∀ b, b < 0 → a ≠ b → (TX15 a).2.1 ≠ (TX15 b).2.1 := by decide +kernel
theorem tyX15_ok : ∀ k, k < 0 → parseFieldDescriptor (TX15 k).2.2.1 = some (tyX15 k) := by decide +kernel
def RJ5 : String := "java/lang/AbstractStringBuilder"
def TJ5 : u_T := fun k => match k with
  | _ => ("", "", "", false)
def tyJ5 : Nat → FieldType := fun k => match k with
  | _ => .int
abbrev wsJ50 : List Cond := u_ws RJ5 TJ5 0
theorem nmJ5 : ∀ a, a < 0 → ∀ b, b < 0 → a ≠ b → (TJ5 a).2.1 ≠ (TJ5 b).2.1 := by decide +kernel
theorem tyJ5_ok : ∀ k, k < 0 → parseFieldDescriptor (TJ5 k).2.2.1 = some (tyJ5 k) := by decide +kernel
abbrev cJ5_init_d00df : ByteArray := prog_18_method_2_code
def yJ5_init_d00df : MethodName := ⟨RJ5, "<init>", "(I)V"⟩
abbrev cJ5_length_8abf5 : ByteArray := prog_18_method_6_code
def yJ5_length_8abf5 : MethodName := ⟨RJ5, "length", "()I"⟩
abbrev cJ5_ensureCapacityInternal_d00df : ByteArray := prog_18_method_9_code
def yJ5_ensureCapacityInternal_d00df : MethodName := ⟨RJ5, "ensureCapacityInternal", "(I)V"⟩
abbrev cJ5_newCapacity_0f7a4 : ByteArray := prog_18_method_10_code
def yJ5_newCapacity_0f7a4 : MethodName := ⟨RJ5, "newCapacity", "(I)I"⟩
abbrev cJ5_inflate_da8c8 : ByteArray := prog_18_method_11_code
def yJ5_inflate_da8c8 : MethodName := ⟨RJ5, "inflate", "()V"⟩
abbrev cJ5_append_cf1ce : ByteArray := prog_18_method_22_code
def yJ5_append_cf1ce : MethodName := ⟨RJ5, "append", "(Ljava/lang/String;)Ljava/lang/AbstractStringBuilder;"⟩
abbrev cJ5_appendNull_278bc : ByteArray := prog_18_method_26_code
def yJ5_appendNull_278bc : MethodName := ⟨RJ5, "appendNull", "()Ljava/lang/AbstractStringBuilder;"⟩
abbrev cJ5_append_c97b9 : ByteArray := prog_18_method_32_code
def yJ5_append_c97b9 : MethodName := ⟨RJ5, "append", "(I)Ljava/lang/AbstractStringBuilder;"⟩
abbrev cJ5_getValue_6d5f1 : ByteArray := prog_18_method_64_code
def yJ5_getValue_6d5f1 : MethodName := ⟨RJ5, "getValue", "()[B"⟩
abbrev cJ5_isLatin1_aae02 : ByteArray := prog_18_method_68_code
def yJ5_isLatin1_aae02 : MethodName := ⟨RJ5, "isLatin1", "()Z"⟩
abbrev cJ5_inflateIfNeededFor_a7421 : ByteArray := prog_18_method_71_code
def yJ5_inflateIfNeededFor_a7421 : MethodName := ⟨RJ5, "inflateIfNeededFor", "(Ljava/lang/String;)V"⟩
abbrev cJ5_putStringAt_47b60 : ByteArray := prog_18_method_73_code
def yJ5_putStringAt_47b60 : MethodName := ⟨RJ5, "putStringAt", "(ILjava/lang/String;)V"⟩
def RJ11 : String := "java/lang/Character"
def TJ11 : u_T := fun k => match k with
  | _ => ("", "", "", false)
def tyJ11 : Nat → FieldType := fun k => match k with
  | _ => .int
abbrev wsJ110 : List Cond := u_ws RJ11 TJ11 0
theorem nmJ11 : ∀ a, a < 0 → ∀ b, b < 0 → a ≠ b → (TJ11 a).2.1 ≠ (TJ11 b).2.1 := by decide +kernel
theorem tyJ11_ok : ∀ k, k < 0 → parseFieldDescriptor (TJ11 k).2.2.1 = some (tyJ11 k) := by decide +kernel
abbrev cJ11_isValidCodePoint_9a6ad : ByteArray := prog_19_method_11_code
def yJ11_isValidCodePoint_9a6ad : MethodName := ⟨RJ11, "isValidCodePoint", "(I)Z"⟩
abbrev cJ11_highSurrogate_5068e : ByteArray := prog_19_method_28_code
def yJ11_highSurrogate_5068e : MethodName := ⟨RJ11, "highSurrogate", "(I)C"⟩
abbrev cJ11_lowSurrogate_5068e : ByteArray := prog_19_method_29_code
def yJ11_lowSurrogate_5068e : MethodName := ⟨RJ11, "lowSurrogate", "(I)C"⟩
def RJx8e188 : String := "java/lang/Cloneable"
def TJx8e188 : u_T := fun k => match k with
  | _ => ("", "", "", false)
def tyJx8e188 : Nat → FieldType := fun k => match k with
  | _ => .int
abbrev wsJx8e1880 : List Cond := u_ws RJx8e188 TJx8e188 0
theorem nmJx8e188 : ∀ a, a < 0 → ∀ b, b < 0 → a ≠ b → (TJx8e188 a).2.1 ≠ (TJx8e188 b).2.1 := by decide +kernel
theorem tyJx8e188_ok : ∀ k, k < 0 → parseFieldDescriptor (TJx8e188 k).2.2.1 = some (tyJx8e188 k) := by decide +kernel
def RJ6 : String := "java/lang/Integer"
def TJ6 : u_T := fun k => match k with
  | _ => ("", "", "", false)
def tyJ6 : Nat → FieldType := fun k => match k with
  | _ => .int
abbrev wsJ60 : List Cond := u_ws RJ6 TJ6 0
theorem nmJ6 : ∀ a, a < 0 → ∀ b, b < 0 → a ≠ b → (TJ6 a).2.1 ≠ (TJ6 b).2.1 := by decide +kernel
theorem tyJ6_ok : ∀ k, k < 0 → parseFieldDescriptor (TJ6 k).2.2.1 = some (tyJ6 k) := by decide +kernel
abbrev cJ6_getChars_ba4f3 : ByteArray := prog_25_method_12_code
def yJ6_getChars_ba4f3 : MethodName := ⟨RJ6, "getChars", "(II[B)I"⟩
abbrev cJ6_stringSize_0f7a4 : ByteArray := prog_25_method_13_code
def yJ6_stringSize_0f7a4 : MethodName := ⟨RJ6, "stringSize", "(I)I"⟩
def RJ9 : String := "java/lang/Math"
def TJ9 : u_T := fun k => match k with
  | _ => ("", "", "", false)
def tyJ9 : Nat → FieldType := fun k => match k with
  | _ => .int
abbrev wsJ90 : List Cond := u_ws RJ9 TJ9 0
theorem nmJ9 : ∀ a, a < 0 → ∀ b, b < 0 → a ≠ b → (TJ9 a).2.1 ≠ (TJ9 b).2.1 := by decide +kernel
theorem tyJ9_ok : ∀ k, k < 0 → parseFieldDescriptor (TJ9 k).2.2.1 = some (tyJ9 k) := by decide +kernel
abbrev cJ9_max_7cf53 : ByteArray := prog_26_method_65_code
def yJ9_max_7cf53 : MethodName := ⟨RJ9, "max", "(II)I"⟩
abbrev cJ9_min_7cf53 : ByteArray := prog_26_method_69_code
def yJ9_min_7cf53 : MethodName := ⟨RJ9, "min", "(II)I"⟩
def RJ0 : String := "java/lang/String"
def TJ0 : u_T := fun k => match k with
  | 0 => ("java/lang/String", "value", "[B", true)
  | 1 => ("java/lang/String", "coder", "B", true)
  | 2 => ("java/lang/String", "hash", "I", false)
  | _ => ("java/lang/String", "hashIsZero", "Z", false)
def tyJ0 : Nat → FieldType := fun k => match k with
  | 0 => .array .byte
  | 1 => .byte
  | 2 => .int
  | _ => .boolean
abbrev wsJ00 : List Cond := u_ws RJ0 TJ0 4
theorem nmJ0 : ∀ a, a < 4 → ∀ b, b < 4 → a ≠ b → (TJ0 a).2.1 ≠ (TJ0 b).2.1 := by decide +kernel
theorem tyJ0_ok : ∀ k, k < 4 → parseFieldDescriptor (TJ0 k).2.2.1 = some (tyJ0 k) := by decide +kernel
abbrev cJ0_init_81219 : ByteArray := prog_28_method_53_code
def yJ0_init_81219 : MethodName := ⟨RJ0, "<init>", "(Ljava/lang/StringBuilder;)V"⟩
abbrev cJ0_length_8abf5 : ByteArray := prog_28_method_54_code
def yJ0_length_8abf5 : MethodName := ⟨RJ0, "length", "()I"⟩
abbrev cJ0_charAt_5068e : ByteArray := prog_28_method_56_code
def yJ0_charAt_5068e : MethodName := ⟨RJ0, "charAt", "(I)C"⟩
abbrev cJ0_indexOf_0f7a4 : ByteArray := prog_28_method_79_code
def yJ0_indexOf_0f7a4 : MethodName := ⟨RJ0, "indexOf", "(I)I"⟩
abbrev cJ0_indexOf_7cf53 : ByteArray := prog_28_method_80_code
def yJ0_indexOf_7cf53 : MethodName := ⟨RJ0, "indexOf", "(II)I"⟩
abbrev cJ0_getBytes_840e7 : ByteArray := prog_28_method_147_code
def yJ0_getBytes_840e7 : MethodName := ⟨RJ0, "getBytes", "([BIB)V"⟩
abbrev cJ0_init_db425 : ByteArray := prog_28_method_150_code
def yJ0_init_db425 : MethodName := ⟨RJ0, "<init>", "(Ljava/lang/AbstractStringBuilder;Ljava/lang/Void;)V"⟩
abbrev cJ0_coder_7d493 : ByteArray := prog_28_method_152_code
def yJ0_coder_7d493 : MethodName := ⟨RJ0, "coder", "()B"⟩
abbrev cJ0_isLatin1_aae02 : ByteArray := prog_28_method_154_code
def yJ0_isLatin1_aae02 : MethodName := ⟨RJ0, "isLatin1", "()Z"⟩
abbrev cJ0_checkIndex_df160 : ByteArray := prog_28_method_155_code
def yJ0_checkIndex_df160 : MethodName := ⟨RJ0, "checkIndex", "(II)V"⟩
abbrev cJ0_checkBoundsOffCount_cabcc : ByteArray := prog_28_method_157_code
def yJ0_checkBoundsOffCount_cabcc : MethodName := ⟨RJ0, "checkBoundsOffCount", "(III)I"⟩
abbrev cJ0_checkBoundsBeginEnd_23922 : ByteArray := prog_28_method_158_code
def yJ0_checkBoundsBeginEnd_23922 : MethodName := ⟨RJ0, "checkBoundsBeginEnd", "(III)V"⟩
def RJ4 : String := "java/lang/StringBuilder"
def TJ4 : u_T := fun k => match k with
  | 0 => ("java/lang/AbstractStringBuilder", "value", "[B", false)
  | 1 => ("java/lang/AbstractStringBuilder", "coder", "B", false)
  | 2 => ("java/lang/AbstractStringBuilder", "maybeLatin1", "Z", false)
  | _ => ("java/lang/AbstractStringBuilder", "count", "I", false)
def tyJ4 : Nat → FieldType := fun k => match k with
  | 0 => .array .byte
  | 1 => .byte
  | 2 => .boolean
  | _ => .int
abbrev wsJ40 : List Cond := u_ws RJ4 TJ4 4
theorem nmJ4 : ∀ a, a < 4 → ∀ b, b < 4 → a ≠ b → (TJ4 a).2.1 ≠ (TJ4 b).2.1 := by decide +kernel
theorem tyJ4_ok : ∀ k, k < 4 → parseFieldDescriptor (TJ4 k).2.2.1 = some (tyJ4 k) := by decide +kernel
abbrev cJ4_init_da8c8 : ByteArray := prog_29_method_1_code
def yJ4_init_da8c8 : MethodName := ⟨RJ4, "<init>", "()V"⟩
abbrev cJ4_append_15ec4 : ByteArray := prog_29_method_7_code
def yJ4_append_15ec4 : MethodName := ⟨RJ4, "append", "(Ljava/lang/String;)Ljava/lang/StringBuilder;"⟩
abbrev cJ4_append_bf812 : ByteArray := prog_29_method_15_code
def yJ4_append_bf812 : MethodName := ⟨RJ4, "append", "(I)Ljava/lang/StringBuilder;"⟩
abbrev cJ4_toString_0e30d : ByteArray := prog_29_method_42_code
def yJ4_toString_0e30d : MethodName := ⟨RJ4, "toString", "()Ljava/lang/String;"⟩
abbrev cJ4_length_8abf5 : ByteArray := prog_29_method_93_code
def yJ4_length_8abf5 : MethodName := ⟨RJ4, "length", "()I"⟩
def RJ1 : String := "java/lang/StringLatin1"
def TJ1 : u_T := fun k => match k with
  | _ => ("", "", "", false)
def tyJ1 : Nat → FieldType := fun k => match k with
  | _ => .int
abbrev wsJ10 : List Cond := u_ws RJ1 TJ1 0
theorem nmJ1 : ∀ a, a < 0 → ∀ b, b < 0 → a ≠ b → (TJ1 a).2.1 ≠ (TJ1 b).2.1 := by decide +kernel
theorem tyJ1_ok : ∀ k, k < 0 → parseFieldDescriptor (TJ1 k).2.2.1 = some (tyJ1 k) := by decide +kernel
abbrev cJ1_charAt_3b067 : ByteArray := prog_30_method_2_code
def yJ1_charAt_3b067 : MethodName := ⟨RJ1, "charAt", "([BI)C"⟩
abbrev cJ1_canEncode_9a6ad : ByteArray := prog_30_method_4_code
def yJ1_canEncode_9a6ad : MethodName := ⟨RJ1, "canEncode", "(I)Z"⟩
abbrev cJ1_indexOf_4cfef : ByteArray := prog_30_method_22_code
def yJ1_indexOf_4cfef : MethodName := ⟨RJ1, "indexOf", "([BIII)I"⟩
abbrev cJ1_indexOfChar_4cfef : ByteArray := prog_30_method_23_code
def yJ1_indexOfChar_4cfef : MethodName := ⟨RJ1, "indexOfChar", "([BIII)I"⟩
abbrev cJ1_inflate_0e8fd : ByteArray := prog_30_method_50_code
def yJ1_inflate_0e8fd : MethodName := ⟨RJ1, "inflate", "([BI[BII)V"⟩
def RJ2 : String := "java/lang/StringUTF16"
def TJ2 : u_T := fun k => match k with
  | _ => ("", "", "", false)
def tyJ2 : Nat → FieldType := fun k => match k with
  | _ => .int
abbrev wsJ20 : List Cond := u_ws RJ2 TJ2 0
theorem nmJ2 : ∀ a, a < 0 → ∀ b, b < 0 → a ≠ b → (TJ2 a).2.1 ≠ (TJ2 b).2.1 := by decide +kernel
theorem tyJ2_ok : ∀ k, k < 0 → parseFieldDescriptor (TJ2 k).2.2.1 = some (tyJ2 k) := by decide +kernel
abbrev cJ2_newBytesFor_77867 : ByteArray := prog_31_method_2_code
def yJ2_newBytesFor_77867 : MethodName := ⟨RJ2, "newBytesFor", "(I)[B"⟩
abbrev cJ2_newBytesLength_0f7a4 : ByteArray := prog_31_method_3_code
def yJ2_newBytesLength_0f7a4 : MethodName := ⟨RJ2, "newBytesLength", "(I)I"⟩
abbrev cJ2_putChar_b72d1 : ByteArray := prog_31_method_4_code
def yJ2_putChar_b72d1 : MethodName := ⟨RJ2, "putChar", "([BII)V"⟩
abbrev cJ2_getChar_3b067 : ByteArray := prog_31_method_5_code
def yJ2_getChar_3b067 : MethodName := ⟨RJ2, "getChar", "([BI)C"⟩
abbrev cJ2_length_9d52b : ByteArray := prog_31_method_6_code
def yJ2_length_9d52b : MethodName := ⟨RJ2, "length", "([B)I"⟩
abbrev cJ2_coderFromArrayLen_85cad : ByteArray := prog_31_method_15_code
def yJ2_coderFromArrayLen_85cad : MethodName := ⟨RJ2, "coderFromArrayLen", "([BI)B"⟩
abbrev cJ2_compress_39247 : ByteArray := prog_31_method_17_code
def yJ2_compress_39247 : MethodName := ⟨RJ2, "compress", "([BII)[B"⟩
abbrev cJ2_compress_5af95 : ByteArray := prog_31_method_22_code
def yJ2_compress_5af95 : MethodName := ⟨RJ2, "compress", "([BI[BII)I"⟩
abbrev cJ2_indexOf_4cfef : ByteArray := prog_31_method_40_code
def yJ2_indexOf_4cfef : MethodName := ⟨RJ2, "indexOf", "([BIII)I"⟩
abbrev cJ2_indexOfChar_4cfef : ByteArray := prog_31_method_47_code
def yJ2_indexOfChar_4cfef : MethodName := ⟨RJ2, "indexOfChar", "([BIII)I"⟩
abbrev cJ2_indexOfCharUnsafe_4cfef : ByteArray := prog_31_method_48_code
def yJ2_indexOfCharUnsafe_4cfef : MethodName := ⟨RJ2, "indexOfCharUnsafe", "([BIII)I"⟩
abbrev cJ2_indexOfSupplementary_4cfef : ByteArray := prog_31_method_49_code
def yJ2_indexOfSupplementary_4cfef : MethodName := ⟨RJ2, "indexOfSupplementary", "([BIII)I"⟩
abbrev cJ2_getChars_46870 : ByteArray := prog_31_method_77_code
def yJ2_getChars_46870 : MethodName := ⟨RJ2, "getChars", "(III[B)I"⟩
abbrev cJ2_putCharsAt_cd4e5 : ByteArray := prog_31_method_81_code
def yJ2_putCharsAt_cd4e5 : MethodName := ⟨RJ2, "putCharsAt", "([BICCCC)I"⟩
abbrev cJ2_charAt_3b067 : ByteArray := prog_31_method_83_code
def yJ2_charAt_3b067 : MethodName := ⟨RJ2, "charAt", "([BI)C"⟩
abbrev cJ2_inflate_0e8fd : ByteArray := prog_31_method_86_code
def yJ2_inflate_0e8fd : MethodName := ⟨RJ2, "inflate", "([BI[BII)V"⟩
abbrev cJ2_getChars_ba4f3 : ByteArray := prog_31_method_89_code
def yJ2_getChars_ba4f3 : MethodName := ⟨RJ2, "getChars", "(II[B)I"⟩
abbrev cJ2_checkIndex_2214a : ByteArray := prog_31_method_91_code
def yJ2_checkIndex_2214a : MethodName := ⟨RJ2, "checkIndex", "(I[B)V"⟩
abbrev cJ2_checkBoundsBeginEnd_d044e : ByteArray := prog_31_method_93_code
def yJ2_checkBoundsBeginEnd_d044e : MethodName := ⟨RJ2, "checkBoundsBeginEnd", "(II[B)V"⟩
abbrev cJ2_checkBoundsOffCount_d044e : ByteArray := prog_31_method_94_code
def yJ2_checkBoundsOffCount_d044e : MethodName := ⟨RJ2, "checkBoundsOffCount", "(II[B)V"⟩
def RJ10 : String := "java/lang/System"
def TJ10 : u_T := fun k => match k with
  | _ => ("", "", "", false)
def tyJ10 : Nat → FieldType := fun k => match k with
  | _ => .int
abbrev wsJ100 : List Cond := u_ws RJ10 TJ10 0
theorem nmJ10 : ∀ a, a < 0 → ∀ b, b < 0 → a ≠ b → (TJ10 a).2.1 ≠ (TJ10 b).2.1 := by decide +kernel
theorem tyJ10_ok : ∀ k, k < 0 → parseFieldDescriptor (TJ10 k).2.2.1 = some (tyJ10 k) := by decide +kernel
def RJ7 : String := "java/util/Arrays"
def TJ7 : u_T := fun k => match k with
  | _ => ("", "", "", false)
def tyJ7 : Nat → FieldType := fun k => match k with
  | _ => .int
abbrev wsJ70 : List Cond := u_ws RJ7 TJ7 0
theorem nmJ7 : ∀ a, a < 0 → ∀ b, b < 0 → a ≠ b → (TJ7 a).2.1 ≠ (TJ7 b).2.1 := by decide +kernel
theorem tyJ7_ok : ∀ k, k < 0 → parseFieldDescriptor (TJ7 k).2.2.1 = some (tyJ7 k) := by decide +kernel
abbrev cJ7_copyOf_9075b : ByteArray := prog_34_method_121_code
def yJ7_copyOf_9075b : MethodName := ⟨RJ7, "copyOf", "([BI)[B"⟩
abbrev cJ7_checkLength_df160 : ByteArray := prog_34_method_131_code
def yJ7_checkLength_df160 : MethodName := ⟨RJ7, "checkLength", "(II)V"⟩
abbrev cJ7_copyOfRange_39247 : ByteArray := prog_34_method_132_code
def yJ7_copyOfRange_39247 : MethodName := ⟨RJ7, "copyOfRange", "([BII)[B"⟩
abbrev cJ7_copyOfRangeByte_39247 : ByteArray := prog_34_method_133_code
def yJ7_copyOfRangeByte_39247 : MethodName := ⟨RJ7, "copyOfRangeByte", "([BII)[B"⟩
def RJ8 : String := "jdk/internal/util/ArraysSupport"
def TJ8 : u_T := fun k => match k with
  | _ => ("", "", "", false)
def tyJ8 : Nat → FieldType := fun k => match k with
  | _ => .int
abbrev wsJ80 : List Cond := u_ws RJ8 TJ8 0
theorem nmJ8 : ∀ a, a < 0 → ∀ b, b < 0 → a ≠ b → (TJ8 a).2.1 ≠ (TJ8 b).2.1 := by decide +kernel
theorem tyJ8_ok : ∀ k, k < 0 → parseFieldDescriptor (TJ8 k).2.2.1 = some (tyJ8 k) := by decide +kernel
abbrev cJ8_newLength_cabcc : ByteArray := prog_35_method_27_code
def yJ8_newLength_cabcc : MethodName := ⟨RJ8, "newLength", "(III)I"⟩
abbrev cJ8_hugeLength_7cf53 : ByteArray := prog_35_method_28_code
def yJ8_hugeLength_7cf53 : MethodName := ⟨RJ8, "hugeLength", "(II)I"⟩
def RJ3 : String := "jdk/internal/util/Preconditions"
def TJ3 : u_T := fun k => match k with
  | _ => ("", "", "", false)
def tyJ3 : Nat → FieldType := fun k => match k with
  | _ => .int
abbrev wsJ30 : List Cond := u_ws RJ3 TJ3 0
theorem nmJ3 : ∀ a, a < 0 → ∀ b, b < 0 → a ≠ b → (TJ3 a).2.1 ≠ (TJ3 b).2.1 := by decide +kernel
theorem tyJ3_ok : ∀ k, k < 0 → parseFieldDescriptor (TJ3 k).2.2.1 = some (tyJ3 k) := by decide +kernel
abbrev cJ3_checkIndex_8e157 : ByteArray := prog_36_method_11_code
def yJ3_checkIndex_8e157 : MethodName := ⟨RJ3, "checkIndex", "(IILjava/util/function/BiFunction;)I"⟩
abbrev cJ3_checkFromToIndex_8c36e : ByteArray := prog_36_method_12_code
def yJ3_checkFromToIndex_8c36e : MethodName := ⟨RJ3, "checkFromToIndex", "(IIILjava/util/function/BiFunction;)I"⟩
abbrev cJ3_checkFromIndexSize_8c36e : ByteArray := prog_36_method_13_code
def yJ3_checkFromIndexSize_8c36e : MethodName := ⟨RJ3, "checkFromIndexSize", "(IIILjava/util/function/BiFunction;)I"⟩
def RL : String := "SpiceQuayLaw"
abbrev cL_below : ByteArray := method_2_code
def yL_below : MethodName := ⟨RL, "below", "(II)I"⟩
abbrev cL_cell : ByteArray := method_3_code
def yL_cell : MethodName := ⟨RL, "cell", "([II)I"⟩
abbrev cL_taught : ByteArray := method_4_code
def yL_taught : MethodName := ⟨RL, "taught", "(LSpiceQuay;Ljava/lang/String;)I"⟩
abbrev cL_sum : ByteArray := method_5_code
def yL_sum : MethodName := ⟨RL, "sum", "([I)Ljava/lang/String;"⟩
abbrev cL_when : ByteArray := method_6_code
def yL_when : MethodName := ⟨RL, "when", "([I)Ljava/lang/String;"⟩
abbrev cL_list : ByteArray := method_7_code
def yL_list : MethodName := ⟨RL, "list", "([ILjava/lang/StringBuilder;)LSpiceQuayLaw$Sim;"⟩
abbrev cL_act : ByteArray := method_8_code
def yL_act : MethodName := ⟨RL, "act", "(LSpiceQuay;LSpiceQuayLaw$Sim;I)Z"⟩
abbrev cL_passed : ByteArray := method_9_code
def yL_passed : MethodName := ⟨RL, "passed", "(LSpiceQuay;LSpiceQuayLaw$Sim;I)Z"⟩
abbrev cL_law : ByteArray := code
def yL_law : MethodName := ⟨RL, "law", "([I)Z"⟩
abbrev vwCl : List vw_C := [(RX0, TX0, 3), (RX1, TX1, 2), (RX3, TX3, 3), (RX4, TX4, 20), (RX5, TX5, 9), (RX6, TX6, 4), (RX7, TX7, 1), (RX8, TX8, 15), (RX9, TX9, 4), (RX10, TX10, 7), (RX11, TX11, 10), (RX12, TX12, 9), (RJ0, TJ0, 4), (RJ4, TJ4, 4)]
