-- ===== PART A: goes FIRST, ahead of the names: the tables' words, and 'selects' of the private methods out of them =====
/-- a private method of a class that the tables say can be made, by its rows of tables_1 -/
def lw_okq (q : MethodName × Nat) : Prop := (q.1.cls ≠ "java/lang/invoke/MethodHandle" ∧ q.1.cls ≠ "java/lang/invoke/VarHandle") ∧ Cond.instantiable q.1.cls q.2 ∈ tables_1 ∧ Cond.privateMethod q.1 ∈ tables_1 ∧ Cond.instanceMethod q.1 ∈ tables_1
theorem lw_p0 : lw_okq (⟨"SpiceQuay$Tokens", "behindBlanks", "(I)I"⟩, 7) := ⟨⟨by decide +kernel, by decide +kernel⟩, List.mem_of_getElem? (i := 49) (by decide +kernel), List.mem_of_getElem? (i := 450) (by decide +kernel), List.mem_of_getElem? (i := 451) (by decide +kernel)⟩
theorem lw_p1 : lw_okq (⟨"SpiceQuay$Tokens", "reads", "(I)Z"⟩, 7) := ⟨⟨by decide +kernel, by decide +kernel⟩, List.mem_of_getElem? (i := 49) (by decide +kernel), List.mem_of_getElem? (i := 458) (by decide +kernel), List.mem_of_getElem? (i := 459) (by decide +kernel)⟩
theorem lw_p2 : lw_okq (⟨"SpiceQuay$Tokens", "readsWord", "(I)Z"⟩, 7) := ⟨⟨by decide +kernel, by decide +kernel⟩, List.mem_of_getElem? (i := 49) (by decide +kernel), List.mem_of_getElem? (i := 465) (by decide +kernel), List.mem_of_getElem? (i := 466) (by decide +kernel)⟩
theorem lw_p3 : lw_okq (⟨"SpiceQuay$Tokens", "keyword", "(II)I"⟩, 7) := ⟨⟨by decide +kernel, by decide +kernel⟩, List.mem_of_getElem? (i := 49) (by decide +kernel), List.mem_of_getElem? (i := 472) (by decide +kernel), List.mem_of_getElem? (i := 473) (by decide +kernel)⟩
theorem lw_p4 : lw_okq (⟨"SpiceQuay$Tokens", "spells", "(III)Z"⟩, 7) := ⟨⟨by decide +kernel, by decide +kernel⟩, List.mem_of_getElem? (i := 49) (by decide +kernel), List.mem_of_getElem? (i := 525) (by decide +kernel), List.mem_of_getElem? (i := 526) (by decide +kernel)⟩
theorem lw_p5 : lw_okq (⟨"SpiceQuay$Tokens", "firstWithName", "(II)I"⟩, 7) := ⟨⟨by decide +kernel, by decide +kernel⟩, List.mem_of_getElem? (i := 49) (by decide +kernel), List.mem_of_getElem? (i := 529) (by decide +kernel), List.mem_of_getElem? (i := 530) (by decide +kernel)⟩
theorem lw_p6 : lw_okq (⟨"SpiceQuay$Tokens", "isSame", "(III)Z"⟩, 7) := ⟨⟨by decide +kernel, by decide +kernel⟩, List.mem_of_getElem? (i := 49) (by decide +kernel), List.mem_of_getElem? (i := 533) (by decide +kernel), List.mem_of_getElem? (i := 534) (by decide +kernel)⟩
theorem lw_p7 : lw_okq (⟨"SpiceQuay$Tokens", "add", "(IIII)V"⟩, 7) := ⟨⟨by decide +kernel, by decide +kernel⟩, List.mem_of_getElem? (i := 49) (by decide +kernel), List.mem_of_getElem? (i := 537) (by decide +kernel), List.mem_of_getElem? (i := 538) (by decide +kernel)⟩
theorem lw_p8 : lw_okq (⟨"SpiceQuay$Tokens", "readsNumber", "(I)Z"⟩, 7) := ⟨⟨by decide +kernel, by decide +kernel⟩, List.mem_of_getElem? (i := 49) (by decide +kernel), List.mem_of_getElem? (i := 545) (by decide +kernel), List.mem_of_getElem? (i := 546) (by decide +kernel)⟩
theorem lw_p9 : lw_okq (⟨"SpiceQuay$Tokens", "readsSign", "(II)Z"⟩, 7) := ⟨⟨by decide +kernel, by decide +kernel⟩, List.mem_of_getElem? (i := 49) (by decide +kernel), List.mem_of_getElem? (i := 549) (by decide +kernel), List.mem_of_getElem? (i := 550) (by decide +kernel)⟩
theorem lw_p10 : lw_okq (⟨"SpiceQuay$Reader", "begin", "()V"⟩, 9) := ⟨⟨by decide +kernel, by decide +kernel⟩, List.mem_of_getElem? (i := 82) (by decide +kernel), List.mem_of_getElem? (i := 617) (by decide +kernel), List.mem_of_getElem? (i := 618) (by decide +kernel)⟩
theorem lw_p11 : lw_okq (⟨"SpiceQuay$Reader", "seen", "()I"⟩, 9) := ⟨⟨by decide +kernel, by decide +kernel⟩, List.mem_of_getElem? (i := 82) (by decide +kernel), List.mem_of_getElem? (i := 625) (by decide +kernel), List.mem_of_getElem? (i := 626) (by decide +kernel)⟩
theorem lw_p12 : lw_okq (⟨"SpiceQuay$Reader", "spiceLine", "()V"⟩, 9) := ⟨⟨by decide +kernel, by decide +kernel⟩, List.mem_of_getElem? (i := 82) (by decide +kernel), List.mem_of_getElem? (i := 630) (by decide +kernel), List.mem_of_getElem? (i := 631) (by decide +kernel)⟩
theorem lw_p13 : lw_okq (⟨"SpiceQuay$Reader", "take", "(I)V"⟩, 9) := ⟨⟨by decide +kernel, by decide +kernel⟩, List.mem_of_getElem? (i := 82) (by decide +kernel), List.mem_of_getElem? (i := 634) (by decide +kernel), List.mem_of_getElem? (i := 635) (by decide +kernel)⟩
theorem lw_p14 : lw_okq (⟨"SpiceQuay$Reader", "fail", "()V"⟩, 9) := ⟨⟨by decide +kernel, by decide +kernel⟩, List.mem_of_getElem? (i := 82) (by decide +kernel), List.mem_of_getElem? (i := 638) (by decide +kernel), List.mem_of_getElem? (i := 639) (by decide +kernel)⟩
theorem lw_p15 : lw_okq (⟨"SpiceQuay$Reader", "takeNewName", "(LSpiceQuay$Names;)I"⟩, 9) := ⟨⟨by decide +kernel, by decide +kernel⟩, List.mem_of_getElem? (i := 82) (by decide +kernel), List.mem_of_getElem? (i := 642) (by decide +kernel), List.mem_of_getElem? (i := 643) (by decide +kernel)⟩
def lw_privs_1 : List (MethodName × Nat) := [(⟨"SpiceQuay$Tokens", "behindBlanks", "(I)I"⟩, 7), (⟨"SpiceQuay$Tokens", "reads", "(I)Z"⟩, 7), (⟨"SpiceQuay$Tokens", "readsWord", "(I)Z"⟩, 7), (⟨"SpiceQuay$Tokens", "keyword", "(II)I"⟩, 7), (⟨"SpiceQuay$Tokens", "spells", "(III)Z"⟩, 7), (⟨"SpiceQuay$Tokens", "firstWithName", "(II)I"⟩, 7), (⟨"SpiceQuay$Tokens", "isSame", "(III)Z"⟩, 7), (⟨"SpiceQuay$Tokens", "add", "(IIII)V"⟩, 7), (⟨"SpiceQuay$Tokens", "readsNumber", "(I)Z"⟩, 7), (⟨"SpiceQuay$Tokens", "readsSign", "(II)Z"⟩, 7), (⟨"SpiceQuay$Reader", "begin", "()V"⟩, 9), (⟨"SpiceQuay$Reader", "seen", "()I"⟩, 9), (⟨"SpiceQuay$Reader", "spiceLine", "()V"⟩, 9), (⟨"SpiceQuay$Reader", "take", "(I)V"⟩, 9), (⟨"SpiceQuay$Reader", "fail", "()V"⟩, 9), (⟨"SpiceQuay$Reader", "takeNewName", "(LSpiceQuay$Names;)I"⟩, 9)]
theorem lw_r1 : ∀ q ∈ lw_privs_1, lw_okq q := List.forall_mem_cons.mpr ⟨lw_p0, List.forall_mem_cons.mpr ⟨lw_p1, List.forall_mem_cons.mpr ⟨lw_p2, List.forall_mem_cons.mpr ⟨lw_p3, List.forall_mem_cons.mpr ⟨lw_p4, List.forall_mem_cons.mpr ⟨lw_p5, List.forall_mem_cons.mpr ⟨lw_p6, List.forall_mem_cons.mpr ⟨lw_p7, List.forall_mem_cons.mpr ⟨lw_p8, List.forall_mem_cons.mpr ⟨lw_p9, List.forall_mem_cons.mpr ⟨lw_p10, List.forall_mem_cons.mpr ⟨lw_p11, List.forall_mem_cons.mpr ⟨lw_p12, List.forall_mem_cons.mpr ⟨lw_p13, List.forall_mem_cons.mpr ⟨lw_p14, List.forall_mem_cons.mpr ⟨lw_p15, fun _ h => absurd h List.not_mem_nil⟩⟩⟩⟩⟩⟩⟩⟩⟩⟩⟩⟩⟩⟩⟩⟩
theorem lw_p16 : lw_okq (⟨"SpiceQuay$Reader", "blame", "(II)V"⟩, 9) := ⟨⟨by decide +kernel, by decide +kernel⟩, List.mem_of_getElem? (i := 82) (by decide +kernel), List.mem_of_getElem? (i := 651) (by decide +kernel), List.mem_of_getElem? (i := 652) (by decide +kernel)⟩
theorem lw_p17 : lw_okq (⟨"SpiceQuay$Reader", "takeNumber", "(II)I"⟩, 9) := ⟨⟨by decide +kernel, by decide +kernel⟩, List.mem_of_getElem? (i := 82) (by decide +kernel), List.mem_of_getElem? (i := 664) (by decide +kernel), List.mem_of_getElem? (i := 665) (by decide +kernel)⟩
theorem lw_p18 : lw_okq (⟨"SpiceQuay$Reader", "guildLine", "()V"⟩, 9) := ⟨⟨by decide +kernel, by decide +kernel⟩, List.mem_of_getElem? (i := 82) (by decide +kernel), List.mem_of_getElem? (i := 669) (by decide +kernel), List.mem_of_getElem? (i := 670) (by decide +kernel)⟩
theorem lw_p19 : lw_okq (⟨"SpiceQuay$Reader", "merchantLine", "()V"⟩, 9) := ⟨⟨by decide +kernel, by decide +kernel⟩, List.mem_of_getElem? (i := 82) (by decide +kernel), List.mem_of_getElem? (i := 673) (by decide +kernel), List.mem_of_getElem? (i := 674) (by decide +kernel)⟩
theorem lw_p20 : lw_okq (⟨"SpiceQuay$Reader", "lotLine", "()V"⟩, 9) := ⟨⟨by decide +kernel, by decide +kernel⟩, List.mem_of_getElem? (i := 82) (by decide +kernel), List.mem_of_getElem? (i := 677) (by decide +kernel), List.mem_of_getElem? (i := 678) (by decide +kernel)⟩
theorem lw_p21 : lw_okq (⟨"SpiceQuay$Reader", "takeName", "(LSpiceQuay$Names;)I"⟩, 9) := ⟨⟨by decide +kernel, by decide +kernel⟩, List.mem_of_getElem? (i := 82) (by decide +kernel), List.mem_of_getElem? (i := 681) (by decide +kernel), List.mem_of_getElem? (i := 682) (by decide +kernel)⟩
theorem lw_p22 : lw_okq (⟨"SpiceQuay$Reader", "orderLine", "(I)V"⟩, 9) := ⟨⟨by decide +kernel, by decide +kernel⟩, List.mem_of_getElem? (i := 82) (by decide +kernel), List.mem_of_getElem? (i := 685) (by decide +kernel), List.mem_of_getElem? (i := 686) (by decide +kernel)⟩
theorem lw_p23 : lw_okq (⟨"SpiceQuay$Reader", "sum", "(I)V"⟩, 9) := ⟨⟨by decide +kernel, by decide +kernel⟩, List.mem_of_getElem? (i := 82) (by decide +kernel), List.mem_of_getElem? (i := 689) (by decide +kernel), List.mem_of_getElem? (i := 690) (by decide +kernel)⟩
theorem lw_p24 : lw_okq (⟨"SpiceQuay$Reader", "product", "(I)V"⟩, 9) := ⟨⟨by decide +kernel, by decide +kernel⟩, List.mem_of_getElem? (i := 82) (by decide +kernel), List.mem_of_getElem? (i := 693) (by decide +kernel), List.mem_of_getElem? (i := 694) (by decide +kernel)⟩
theorem lw_p25 : lw_okq (⟨"SpiceQuay$Reader", "value", "(I)V"⟩, 9) := ⟨⟨by decide +kernel, by decide +kernel⟩, List.mem_of_getElem? (i := 82) (by decide +kernel), List.mem_of_getElem? (i := 697) (by decide +kernel), List.mem_of_getElem? (i := 698) (by decide +kernel)⟩
theorem lw_p26 : lw_okq (⟨"SpiceQuay$Reader", "turnedValue", "(I)V"⟩, 9) := ⟨⟨by decide +kernel, by decide +kernel⟩, List.mem_of_getElem? (i := 82) (by decide +kernel), List.mem_of_getElem? (i := 707) (by decide +kernel), List.mem_of_getElem? (i := 708) (by decide +kernel)⟩
theorem lw_p27 : lw_okq (⟨"SpiceQuay$Reader", "goesDeeper", "(II)Z"⟩, 9) := ⟨⟨by decide +kernel, by decide +kernel⟩, List.mem_of_getElem? (i := 82) (by decide +kernel), List.mem_of_getElem? (i := 711) (by decide +kernel), List.mem_of_getElem? (i := 712) (by decide +kernel)⟩
theorem lw_p28 : lw_okq (⟨"SpiceQuay$Reader", "sumInBrackets", "(I)V"⟩, 9) := ⟨⟨by decide +kernel, by decide +kernel⟩, List.mem_of_getElem? (i := 82) (by decide +kernel), List.mem_of_getElem? (i := 715) (by decide +kernel), List.mem_of_getElem? (i := 716) (by decide +kernel)⟩
theorem lw_p29 : lw_okq (⟨"SpiceQuay$Reader", "oneOfTwoSums", "(II)V"⟩, 9) := ⟨⟨by decide +kernel, by decide +kernel⟩, List.mem_of_getElem? (i := 82) (by decide +kernel), List.mem_of_getElem? (i := 719) (by decide +kernel), List.mem_of_getElem? (i := 720) (by decide +kernel)⟩
theorem lw_p30 : lw_okq (⟨"SpiceQuay$Reader", "test", "(I)V"⟩, 9) := ⟨⟨by decide +kernel, by decide +kernel⟩, List.mem_of_getElem? (i := 82) (by decide +kernel), List.mem_of_getElem? (i := 723) (by decide +kernel), List.mem_of_getElem? (i := 724) (by decide +kernel)⟩
theorem lw_p31 : lw_okq (⟨"SpiceQuay$Reader", "both", "(I)V"⟩, 9) := ⟨⟨by decide +kernel, by decide +kernel⟩, List.mem_of_getElem? (i := 82) (by decide +kernel), List.mem_of_getElem? (i := 727) (by decide +kernel), List.mem_of_getElem? (i := 728) (by decide +kernel)⟩
def lw_privs_2 : List (MethodName × Nat) := [(⟨"SpiceQuay$Reader", "blame", "(II)V"⟩, 9), (⟨"SpiceQuay$Reader", "takeNumber", "(II)I"⟩, 9), (⟨"SpiceQuay$Reader", "guildLine", "()V"⟩, 9), (⟨"SpiceQuay$Reader", "merchantLine", "()V"⟩, 9), (⟨"SpiceQuay$Reader", "lotLine", "()V"⟩, 9), (⟨"SpiceQuay$Reader", "takeName", "(LSpiceQuay$Names;)I"⟩, 9), (⟨"SpiceQuay$Reader", "orderLine", "(I)V"⟩, 9), (⟨"SpiceQuay$Reader", "sum", "(I)V"⟩, 9), (⟨"SpiceQuay$Reader", "product", "(I)V"⟩, 9), (⟨"SpiceQuay$Reader", "value", "(I)V"⟩, 9), (⟨"SpiceQuay$Reader", "turnedValue", "(I)V"⟩, 9), (⟨"SpiceQuay$Reader", "goesDeeper", "(II)Z"⟩, 9), (⟨"SpiceQuay$Reader", "sumInBrackets", "(I)V"⟩, 9), (⟨"SpiceQuay$Reader", "oneOfTwoSums", "(II)V"⟩, 9), (⟨"SpiceQuay$Reader", "test", "(I)V"⟩, 9), (⟨"SpiceQuay$Reader", "both", "(I)V"⟩, 9)]
theorem lw_r2 : ∀ q ∈ lw_privs_2, lw_okq q := List.forall_mem_cons.mpr ⟨lw_p16, List.forall_mem_cons.mpr ⟨lw_p17, List.forall_mem_cons.mpr ⟨lw_p18, List.forall_mem_cons.mpr ⟨lw_p19, List.forall_mem_cons.mpr ⟨lw_p20, List.forall_mem_cons.mpr ⟨lw_p21, List.forall_mem_cons.mpr ⟨lw_p22, List.forall_mem_cons.mpr ⟨lw_p23, List.forall_mem_cons.mpr ⟨lw_p24, List.forall_mem_cons.mpr ⟨lw_p25, List.forall_mem_cons.mpr ⟨lw_p26, List.forall_mem_cons.mpr ⟨lw_p27, List.forall_mem_cons.mpr ⟨lw_p28, List.forall_mem_cons.mpr ⟨lw_p29, List.forall_mem_cons.mpr ⟨lw_p30, List.forall_mem_cons.mpr ⟨lw_p31, fun _ h => absurd h List.not_mem_nil⟩⟩⟩⟩⟩⟩⟩⟩⟩⟩⟩⟩⟩⟩⟩⟩
theorem lw_p32 : lw_okq (⟨"SpiceQuay$Reader", "single", "(I)V"⟩, 9) := ⟨⟨by decide +kernel, by decide +kernel⟩, List.mem_of_getElem? (i := 82) (by decide +kernel), List.mem_of_getElem? (i := 731) (by decide +kernel), List.mem_of_getElem? (i := 732) (by decide +kernel)⟩
theorem lw_p33 : lw_okq (⟨"SpiceQuay$Reader", "turnedTest", "(I)V"⟩, 9) := ⟨⟨by decide +kernel, by decide +kernel⟩, List.mem_of_getElem? (i := 82) (by decide +kernel), List.mem_of_getElem? (i := 735) (by decide +kernel), List.mem_of_getElem? (i := 736) (by decide +kernel)⟩
theorem lw_p34 : lw_okq (⟨"SpiceQuay$Reader", "testInBrackets", "(I)V"⟩, 9) := ⟨⟨by decide +kernel, by decide +kernel⟩, List.mem_of_getElem? (i := 82) (by decide +kernel), List.mem_of_getElem? (i := 739) (by decide +kernel), List.mem_of_getElem? (i := 740) (by decide +kernel)⟩
theorem lw_p35 : lw_okq (⟨"SpiceQuay$Reader", "takeComparison", "()I"⟩, 9) := ⟨⟨by decide +kernel, by decide +kernel⟩, List.mem_of_getElem? (i := 82) (by decide +kernel), List.mem_of_getElem? (i := 743) (by decide +kernel), List.mem_of_getElem? (i := 744) (by decide +kernel)⟩
theorem lw_p36 : lw_okq (⟨"SpiceQuay", "counted", "(I)I"⟩, 10) := ⟨⟨by decide +kernel, by decide +kernel⟩, List.mem_of_getElem? (i := 30) (by decide +kernel), List.mem_of_getElem? (i := 814) (by decide +kernel), List.mem_of_getElem? (i := 815) (by decide +kernel)⟩
theorem lw_p37 : lw_okq (⟨"SpiceQuay", "digestOfLots", "(J)J"⟩, 10) := ⟨⟨by decide +kernel, by decide +kernel⟩, List.mem_of_getElem? (i := 30) (by decide +kernel), List.mem_of_getElem? (i := 828) (by decide +kernel), List.mem_of_getElem? (i := 829) (by decide +kernel)⟩
theorem lw_p38 : lw_okq (⟨"SpiceQuay", "digestOfMerchants", "(J)J"⟩, 10) := ⟨⟨by decide +kernel, by decide +kernel⟩, List.mem_of_getElem? (i := 30) (by decide +kernel), List.mem_of_getElem? (i := 844) (by decide +kernel), List.mem_of_getElem? (i := 845) (by decide +kernel)⟩
theorem lw_p39 : lw_okq (⟨"SpiceQuay$Stand", "lotsOf", "(I)I"⟩, 15) := ⟨⟨by decide +kernel, by decide +kernel⟩, List.mem_of_getElem? (i := 281) (by decide +kernel), List.mem_of_getElem? (i := 861) (by decide +kernel), List.mem_of_getElem? (i := 862) (by decide +kernel)⟩
theorem lw_p40 : lw_okq (⟨"SpiceQuay$Stand", "weightOfLotsOf", "(I)I"⟩, 15) := ⟨⟨by decide +kernel, by decide +kernel⟩, List.mem_of_getElem? (i := 281) (by decide +kernel), List.mem_of_getElem? (i := 865) (by decide +kernel), List.mem_of_getElem? (i := 866) (by decide +kernel)⟩
theorem lw_p41 : lw_okq (⟨"SpiceQuay", "digestOfGuilds", "(J)J"⟩, 10) := ⟨⟨by decide +kernel, by decide +kernel⟩, List.mem_of_getElem? (i := 30) (by decide +kernel), List.mem_of_getElem? (i := 873) (by decide +kernel), List.mem_of_getElem? (i := 874) (by decide +kernel)⟩
theorem lw_p42 : lw_okq (⟨"SpiceQuay$Stand", "lotsWithChopOf", "(I)I"⟩, 15) := ⟨⟨by decide +kernel, by decide +kernel⟩, List.mem_of_getElem? (i := 281) (by decide +kernel), List.mem_of_getElem? (i := 881) (by decide +kernel), List.mem_of_getElem? (i := 882) (by decide +kernel)⟩
theorem lw_p43 : lw_okq (⟨"SpiceQuay", "digestOfOrders", "(J)J"⟩, 10) := ⟨⟨by decide +kernel, by decide +kernel⟩, List.mem_of_getElem? (i := 30) (by decide +kernel), List.mem_of_getElem? (i := 885) (by decide +kernel), List.mem_of_getElem? (i := 886) (by decide +kernel)⟩
theorem lw_p44 : lw_okq (⟨"SpiceQuay", "tellOrder", "(II)I"⟩, 10) := ⟨⟨by decide +kernel, by decide +kernel⟩, List.mem_of_getElem? (i := 30) (by decide +kernel), List.mem_of_getElem? (i := 889) (by decide +kernel), List.mem_of_getElem? (i := 890) (by decide +kernel)⟩
theorem lw_p45 : lw_okq (⟨"SpiceQuay$Reckoner", "take", "()I"⟩, 4) := ⟨⟨by decide +kernel, by decide +kernel⟩, List.mem_of_getElem? (i := 380) (by decide +kernel), List.mem_of_getElem? (i := 904) (by decide +kernel), List.mem_of_getElem? (i := 905) (by decide +kernel)⟩
theorem lw_p46 : lw_okq (⟨"SpiceQuay$Reckoner", "put", "(I)V"⟩, 4) := ⟨⟨by decide +kernel, by decide +kernel⟩, List.mem_of_getElem? (i := 380) (by decide +kernel), List.mem_of_getElem? (i := 908) (by decide +kernel), List.mem_of_getElem? (i := 909) (by decide +kernel)⟩
theorem lw_p47 : lw_okq (⟨"SpiceQuay$Reckoner", "value", "(III)I"⟩, 4) := ⟨⟨by decide +kernel, by decide +kernel⟩, List.mem_of_getElem? (i := 380) (by decide +kernel), List.mem_of_getElem? (i := 928) (by decide +kernel), List.mem_of_getElem? (i := 929) (by decide +kernel)⟩
def lw_privs_3 : List (MethodName × Nat) := [(⟨"SpiceQuay$Reader", "single", "(I)V"⟩, 9), (⟨"SpiceQuay$Reader", "turnedTest", "(I)V"⟩, 9), (⟨"SpiceQuay$Reader", "testInBrackets", "(I)V"⟩, 9), (⟨"SpiceQuay$Reader", "takeComparison", "()I"⟩, 9), (⟨"SpiceQuay", "counted", "(I)I"⟩, 10), (⟨"SpiceQuay", "digestOfLots", "(J)J"⟩, 10), (⟨"SpiceQuay", "digestOfMerchants", "(J)J"⟩, 10), (⟨"SpiceQuay$Stand", "lotsOf", "(I)I"⟩, 15), (⟨"SpiceQuay$Stand", "weightOfLotsOf", "(I)I"⟩, 15), (⟨"SpiceQuay", "digestOfGuilds", "(J)J"⟩, 10), (⟨"SpiceQuay$Stand", "lotsWithChopOf", "(I)I"⟩, 15), (⟨"SpiceQuay", "digestOfOrders", "(J)J"⟩, 10), (⟨"SpiceQuay", "tellOrder", "(II)I"⟩, 10), (⟨"SpiceQuay$Reckoner", "take", "()I"⟩, 4), (⟨"SpiceQuay$Reckoner", "put", "(I)V"⟩, 4), (⟨"SpiceQuay$Reckoner", "value", "(III)I"⟩, 4)]
theorem lw_r3 : ∀ q ∈ lw_privs_3, lw_okq q := List.forall_mem_cons.mpr ⟨lw_p32, List.forall_mem_cons.mpr ⟨lw_p33, List.forall_mem_cons.mpr ⟨lw_p34, List.forall_mem_cons.mpr ⟨lw_p35, List.forall_mem_cons.mpr ⟨lw_p36, List.forall_mem_cons.mpr ⟨lw_p37, List.forall_mem_cons.mpr ⟨lw_p38, List.forall_mem_cons.mpr ⟨lw_p39, List.forall_mem_cons.mpr ⟨lw_p40, List.forall_mem_cons.mpr ⟨lw_p41, List.forall_mem_cons.mpr ⟨lw_p42, List.forall_mem_cons.mpr ⟨lw_p43, List.forall_mem_cons.mpr ⟨lw_p44, List.forall_mem_cons.mpr ⟨lw_p45, List.forall_mem_cons.mpr ⟨lw_p46, List.forall_mem_cons.mpr ⟨lw_p47, fun _ h => absurd h List.not_mem_nil⟩⟩⟩⟩⟩⟩⟩⟩⟩⟩⟩⟩⟩⟩⟩⟩
theorem lw_p48 : lw_okq (⟨"SpiceQuay$Days", "canWeigh", "(II)Z"⟩, 3) := ⟨⟨by decide +kernel, by decide +kernel⟩, List.mem_of_getElem? (i := 374) (by decide +kernel), List.mem_of_getElem? (i := 935) (by decide +kernel), List.mem_of_getElem? (i := 936) (by decide +kernel)⟩
theorem lw_p49 : lw_okq (⟨"SpiceQuay$Days", "canSell", "(III)Z"⟩, 3) := ⟨⟨by decide +kernel, by decide +kernel⟩, List.mem_of_getElem? (i := 374) (by decide +kernel), List.mem_of_getElem? (i := 939) (by decide +kernel), List.mem_of_getElem? (i := 940) (by decide +kernel)⟩
theorem lw_p50 : lw_okq (⟨"SpiceQuay$Days", "price", "(II)I"⟩, 3) := ⟨⟨by decide +kernel, by decide +kernel⟩, List.mem_of_getElem? (i := 374) (by decide +kernel), List.mem_of_getElem? (i := 944) (by decide +kernel), List.mem_of_getElem? (i := 945) (by decide +kernel)⟩
theorem lw_p51 : lw_okq (⟨"SpiceQuay$Days", "due", "(III)I"⟩, 3) := ⟨⟨by decide +kernel, by decide +kernel⟩, List.mem_of_getElem? (i := 374) (by decide +kernel), List.mem_of_getElem? (i := 951) (by decide +kernel), List.mem_of_getElem? (i := 952) (by decide +kernel)⟩
theorem lw_p52 : lw_okq (⟨"java/lang/Throwable", "fillInStackTrace", "(I)Ljava/lang/Throwable;"⟩, 6) := ⟨⟨by decide +kernel, by decide +kernel⟩, List.mem_of_getElem? (i := 1002) (by decide +kernel), List.mem_of_getElem? (i := 1000) (by decide +kernel), List.mem_of_getElem? (i := 1001) (by decide +kernel)⟩
theorem lw_p53 : lw_okq (⟨"SpiceQuay", "append", "(I)V"⟩, 10) := ⟨⟨by decide +kernel, by decide +kernel⟩, List.mem_of_getElem? (i := 30) (by decide +kernel), List.mem_of_getElem? (i := 1031) (by decide +kernel), List.mem_of_getElem? (i := 1032) (by decide +kernel)⟩
theorem lw_p54 : lw_okq (⟨"SpiceQuay", "isLot", "(I)Z"⟩, 10) := ⟨⟨by decide +kernel, by decide +kernel⟩, List.mem_of_getElem? (i := 30) (by decide +kernel), List.mem_of_getElem? (i := 1091) (by decide +kernel), List.mem_of_getElem? (i := 1092) (by decide +kernel)⟩
theorem lw_p55 : lw_okq (⟨"SpiceQuay", "isMerchant", "(I)Z"⟩, 10) := ⟨⟨by decide +kernel, by decide +kernel⟩, List.mem_of_getElem? (i := 30) (by decide +kernel), List.mem_of_getElem? (i := 1103) (by decide +kernel), List.mem_of_getElem? (i := 1104) (by decide +kernel)⟩
theorem lw_p56 : lw_okq (⟨"SpiceQuay$Debts", "reachBy", "(I)V"⟩, 2) := ⟨⟨by decide +kernel, by decide +kernel⟩, List.mem_of_getElem? (i := 289) (by decide +kernel), List.mem_of_getElem? (i := 1144) (by decide +kernel), List.mem_of_getElem? (i := 1145) (by decide +kernel)⟩
theorem lw_p57 : lw_okq (⟨"SpiceQuay$Debts", "widen", "()V"⟩, 2) := ⟨⟨by decide +kernel, by decide +kernel⟩, List.mem_of_getElem? (i := 289) (by decide +kernel), List.mem_of_getElem? (i := 1160) (by decide +kernel), List.mem_of_getElem? (i := 1161) (by decide +kernel)⟩
theorem lw_p58 : lw_okq (⟨"SpiceQuay$Days", "followOrders", "()I"⟩, 3) := ⟨⟨by decide +kernel, by decide +kernel⟩, List.mem_of_getElem? (i := 374) (by decide +kernel), List.mem_of_getElem? (i := 1231) (by decide +kernel), List.mem_of_getElem? (i := 1232) (by decide +kernel)⟩
theorem lw_p59 : lw_okq (⟨"SpiceQuay$Days", "carryOut", "(I)V"⟩, 3) := ⟨⟨by decide +kernel, by decide +kernel⟩, List.mem_of_getElem? (i := 374) (by decide +kernel), List.mem_of_getElem? (i := 1236) (by decide +kernel), List.mem_of_getElem? (i := 1237) (by decide +kernel)⟩
theorem lw_p60 : lw_okq (⟨"SpiceQuay$Days", "weigh", "(II)V"⟩, 3) := ⟨⟨by decide +kernel, by decide +kernel⟩, List.mem_of_getElem? (i := 374) (by decide +kernel), List.mem_of_getElem? (i := 1240) (by decide +kernel), List.mem_of_getElem? (i := 1241) (by decide +kernel)⟩
theorem lw_p61 : lw_okq (⟨"SpiceQuay$Days", "sell", "(III)V"⟩, 3) := ⟨⟨by decide +kernel, by decide +kernel⟩, List.mem_of_getElem? (i := 374) (by decide +kernel), List.mem_of_getElem? (i := 1249) (by decide +kernel), List.mem_of_getElem? (i := 1250) (by decide +kernel)⟩
theorem lw_p62 : lw_okq (⟨"SpiceQuay$Days", "payBack", "(III)V"⟩, 3) := ⟨⟨by decide +kernel, by decide +kernel⟩, List.mem_of_getElem? (i := 374) (by decide +kernel), List.mem_of_getElem? (i := 1256) (by decide +kernel), List.mem_of_getElem? (i := 1257) (by decide +kernel)⟩
theorem lw_p63 : lw_okq (⟨"SpiceQuayModel", "no", "(I)I"⟩, 12) := ⟨⟨by decide +kernel, by decide +kernel⟩, List.mem_of_getElem? (i := 1314) (by decide +kernel), List.mem_of_getElem? (i := 1534) (by decide +kernel), List.mem_of_getElem? (i := 1535) (by decide +kernel)⟩
def lw_privs_4 : List (MethodName × Nat) := [(⟨"SpiceQuay$Days", "canWeigh", "(II)Z"⟩, 3), (⟨"SpiceQuay$Days", "canSell", "(III)Z"⟩, 3), (⟨"SpiceQuay$Days", "price", "(II)I"⟩, 3), (⟨"SpiceQuay$Days", "due", "(III)I"⟩, 3), (⟨"java/lang/Throwable", "fillInStackTrace", "(I)Ljava/lang/Throwable;"⟩, 6), (⟨"SpiceQuay", "append", "(I)V"⟩, 10), (⟨"SpiceQuay", "isLot", "(I)Z"⟩, 10), (⟨"SpiceQuay", "isMerchant", "(I)Z"⟩, 10), (⟨"SpiceQuay$Debts", "reachBy", "(I)V"⟩, 2), (⟨"SpiceQuay$Debts", "widen", "()V"⟩, 2), (⟨"SpiceQuay$Days", "followOrders", "()I"⟩, 3), (⟨"SpiceQuay$Days", "carryOut", "(I)V"⟩, 3), (⟨"SpiceQuay$Days", "weigh", "(II)V"⟩, 3), (⟨"SpiceQuay$Days", "sell", "(III)V"⟩, 3), (⟨"SpiceQuay$Days", "payBack", "(III)V"⟩, 3), (⟨"SpiceQuayModel", "no", "(I)I"⟩, 12)]
theorem lw_r4 : ∀ q ∈ lw_privs_4, lw_okq q := List.forall_mem_cons.mpr ⟨lw_p48, List.forall_mem_cons.mpr ⟨lw_p49, List.forall_mem_cons.mpr ⟨lw_p50, List.forall_mem_cons.mpr ⟨lw_p51, List.forall_mem_cons.mpr ⟨lw_p52, List.forall_mem_cons.mpr ⟨lw_p53, List.forall_mem_cons.mpr ⟨lw_p54, List.forall_mem_cons.mpr ⟨lw_p55, List.forall_mem_cons.mpr ⟨lw_p56, List.forall_mem_cons.mpr ⟨lw_p57, List.forall_mem_cons.mpr ⟨lw_p58, List.forall_mem_cons.mpr ⟨lw_p59, List.forall_mem_cons.mpr ⟨lw_p60, List.forall_mem_cons.mpr ⟨lw_p61, List.forall_mem_cons.mpr ⟨lw_p62, List.forall_mem_cons.mpr ⟨lw_p63, fun _ h => absurd h List.not_mem_nil⟩⟩⟩⟩⟩⟩⟩⟩⟩⟩⟩⟩⟩⟩⟩⟩
theorem lw_p64 : lw_okq (⟨"SpiceQuayModel", "read", "(LSpiceQuayModel$Sheet;)I"⟩, 12) := ⟨⟨by decide +kernel, by decide +kernel⟩, List.mem_of_getElem? (i := 1314) (by decide +kernel), List.mem_of_getElem? (i := 1549) (by decide +kernel), List.mem_of_getElem? (i := 1550) (by decide +kernel)⟩
theorem lw_p65 : lw_okq (⟨"SpiceQuayModel", "cut", "(LSpiceQuayModel$Sheet;)V"⟩, 12) := ⟨⟨by decide +kernel, by decide +kernel⟩, List.mem_of_getElem? (i := 1314) (by decide +kernel), List.mem_of_getElem? (i := 1553) (by decide +kernel), List.mem_of_getElem? (i := 1554) (by decide +kernel)⟩
theorem lw_p66 : lw_okq (⟨"SpiceQuayModel", "byteAt", "(I)I"⟩, 12) := ⟨⟨by decide +kernel, by decide +kernel⟩, List.mem_of_getElem? (i := 1314) (by decide +kernel), List.mem_of_getElem? (i := 1557) (by decide +kernel), List.mem_of_getElem? (i := 1558) (by decide +kernel)⟩
theorem lw_p67 : lw_okq (⟨"SpiceQuayModel", "lengthAt", "(I)I"⟩, 12) := ⟨⟨by decide +kernel, by decide +kernel⟩, List.mem_of_getElem? (i := 1314) (by decide +kernel), List.mem_of_getElem? (i := 1561) (by decide +kernel), List.mem_of_getElem? (i := 1562) (by decide +kernel)⟩
theorem lw_p68 : lw_okq (⟨"SpiceQuayModel", "kindAt", "(II)I"⟩, 12) := ⟨⟨by decide +kernel, by decide +kernel⟩, List.mem_of_getElem? (i := 1314) (by decide +kernel), List.mem_of_getElem? (i := 1571) (by decide +kernel), List.mem_of_getElem? (i := 1572) (by decide +kernel)⟩
theorem lw_p69 : lw_okq (⟨"SpiceQuayModel", "wordAt", "(II)I"⟩, 12) := ⟨⟨by decide +kernel, by decide +kernel⟩, List.mem_of_getElem? (i := 1314) (by decide +kernel), List.mem_of_getElem? (i := 1575) (by decide +kernel), List.mem_of_getElem? (i := 1576) (by decide +kernel)⟩
theorem lw_p70 : lw_okq (⟨"SpiceQuayModel", "isList", "(LSpiceQuayModel$Sheet;)Z"⟩, 12) := ⟨⟨by decide +kernel, by decide +kernel⟩, List.mem_of_getElem? (i := 1314) (by decide +kernel), List.mem_of_getElem? (i := 1585) (by decide +kernel), List.mem_of_getElem? (i := 1586) (by decide +kernel)⟩
theorem lw_p71 : lw_okq (⟨"SpiceQuayModel", "isLine", "(LSpiceQuayModel$Sheet;)Z"⟩, 12) := ⟨⟨by decide +kernel, by decide +kernel⟩, List.mem_of_getElem? (i := 1314) (by decide +kernel), List.mem_of_getElem? (i := 1589) (by decide +kernel), List.mem_of_getElem? (i := 1590) (by decide +kernel)⟩
theorem lw_p72 : lw_okq (⟨"SpiceQuayModel", "isName", "(LSpiceQuayModel$Sheet;I)Z"⟩, 12) := ⟨⟨by decide +kernel, by decide +kernel⟩, List.mem_of_getElem? (i := 1314) (by decide +kernel), List.mem_of_getElem? (i := 1593) (by decide +kernel), List.mem_of_getElem? (i := 1594) (by decide +kernel)⟩
theorem lw_p73 : lw_okq (⟨"SpiceQuayModel", "eat", "(LSpiceQuayModel$Sheet;I)Z"⟩, 12) := ⟨⟨by decide +kernel, by decide +kernel⟩, List.mem_of_getElem? (i := 1314) (by decide +kernel), List.mem_of_getElem? (i := 1597) (by decide +kernel), List.mem_of_getElem? (i := 1598) (by decide +kernel)⟩
theorem lw_p74 : lw_okq (⟨"SpiceQuayModel", "isNumber", "(LSpiceQuayModel$Sheet;I)Z"⟩, 12) := ⟨⟨by decide +kernel, by decide +kernel⟩, List.mem_of_getElem? (i := 1314) (by decide +kernel), List.mem_of_getElem? (i := 1601) (by decide +kernel), List.mem_of_getElem? (i := 1602) (by decide +kernel)⟩
theorem lw_p75 : lw_okq (⟨"SpiceQuayModel", "mayTest", "(LSpiceQuayModel$Sheet;)Z"⟩, 12) := ⟨⟨by decide +kernel, by decide +kernel⟩, List.mem_of_getElem? (i := 1314) (by decide +kernel), List.mem_of_getElem? (i := 1605) (by decide +kernel), List.mem_of_getElem? (i := 1606) (by decide +kernel)⟩
theorem lw_p76 : lw_okq (⟨"SpiceQuayModel", "isTest", "(LSpiceQuayModel$Sheet;)Z"⟩, 12) := ⟨⟨by decide +kernel, by decide +kernel⟩, List.mem_of_getElem? (i := 1314) (by decide +kernel), List.mem_of_getElem? (i := 1609) (by decide +kernel), List.mem_of_getElem? (i := 1610) (by decide +kernel)⟩
theorem lw_p77 : lw_okq (⟨"SpiceQuayModel", "isBoth", "(LSpiceQuayModel$Sheet;)Z"⟩, 12) := ⟨⟨by decide +kernel, by decide +kernel⟩, List.mem_of_getElem? (i := 1314) (by decide +kernel), List.mem_of_getElem? (i := 1613) (by decide +kernel), List.mem_of_getElem? (i := 1614) (by decide +kernel)⟩
theorem lw_p78 : lw_okq (⟨"SpiceQuayModel", "isSingle", "(LSpiceQuayModel$Sheet;)Z"⟩, 12) := ⟨⟨by decide +kernel, by decide +kernel⟩, List.mem_of_getElem? (i := 1314) (by decide +kernel), List.mem_of_getElem? (i := 1617) (by decide +kernel), List.mem_of_getElem? (i := 1618) (by decide +kernel)⟩
theorem lw_p79 : lw_okq (⟨"SpiceQuayModel", "goDown", "(LSpiceQuayModel$Sheet;I)Z"⟩, 12) := ⟨⟨by decide +kernel, by decide +kernel⟩, List.mem_of_getElem? (i := 1314) (by decide +kernel), List.mem_of_getElem? (i := 1621) (by decide +kernel), List.mem_of_getElem? (i := 1622) (by decide +kernel)⟩
def lw_privs_5 : List (MethodName × Nat) := [(⟨"SpiceQuayModel", "read", "(LSpiceQuayModel$Sheet;)I"⟩, 12), (⟨"SpiceQuayModel", "cut", "(LSpiceQuayModel$Sheet;)V"⟩, 12), (⟨"SpiceQuayModel", "byteAt", "(I)I"⟩, 12), (⟨"SpiceQuayModel", "lengthAt", "(I)I"⟩, 12), (⟨"SpiceQuayModel", "kindAt", "(II)I"⟩, 12), (⟨"SpiceQuayModel", "wordAt", "(II)I"⟩, 12), (⟨"SpiceQuayModel", "isList", "(LSpiceQuayModel$Sheet;)Z"⟩, 12), (⟨"SpiceQuayModel", "isLine", "(LSpiceQuayModel$Sheet;)Z"⟩, 12), (⟨"SpiceQuayModel", "isName", "(LSpiceQuayModel$Sheet;I)Z"⟩, 12), (⟨"SpiceQuayModel", "eat", "(LSpiceQuayModel$Sheet;I)Z"⟩, 12), (⟨"SpiceQuayModel", "isNumber", "(LSpiceQuayModel$Sheet;I)Z"⟩, 12), (⟨"SpiceQuayModel", "mayTest", "(LSpiceQuayModel$Sheet;)Z"⟩, 12), (⟨"SpiceQuayModel", "isTest", "(LSpiceQuayModel$Sheet;)Z"⟩, 12), (⟨"SpiceQuayModel", "isBoth", "(LSpiceQuayModel$Sheet;)Z"⟩, 12), (⟨"SpiceQuayModel", "isSingle", "(LSpiceQuayModel$Sheet;)Z"⟩, 12), (⟨"SpiceQuayModel", "goDown", "(LSpiceQuayModel$Sheet;I)Z"⟩, 12)]
theorem lw_r5 : ∀ q ∈ lw_privs_5, lw_okq q := List.forall_mem_cons.mpr ⟨lw_p64, List.forall_mem_cons.mpr ⟨lw_p65, List.forall_mem_cons.mpr ⟨lw_p66, List.forall_mem_cons.mpr ⟨lw_p67, List.forall_mem_cons.mpr ⟨lw_p68, List.forall_mem_cons.mpr ⟨lw_p69, List.forall_mem_cons.mpr ⟨lw_p70, List.forall_mem_cons.mpr ⟨lw_p71, List.forall_mem_cons.mpr ⟨lw_p72, List.forall_mem_cons.mpr ⟨lw_p73, List.forall_mem_cons.mpr ⟨lw_p74, List.forall_mem_cons.mpr ⟨lw_p75, List.forall_mem_cons.mpr ⟨lw_p76, List.forall_mem_cons.mpr ⟨lw_p77, List.forall_mem_cons.mpr ⟨lw_p78, List.forall_mem_cons.mpr ⟨lw_p79, fun _ h => absurd h List.not_mem_nil⟩⟩⟩⟩⟩⟩⟩⟩⟩⟩⟩⟩⟩⟩⟩⟩
theorem lw_p80 : lw_okq (⟨"SpiceQuayModel", "isSum", "(LSpiceQuayModel$Sheet;)Z"⟩, 12) := ⟨⟨by decide +kernel, by decide +kernel⟩, List.mem_of_getElem? (i := 1314) (by decide +kernel), List.mem_of_getElem? (i := 1625) (by decide +kernel), List.mem_of_getElem? (i := 1626) (by decide +kernel)⟩
theorem lw_p81 : lw_okq (⟨"SpiceQuayModel", "isProduct", "(LSpiceQuayModel$Sheet;)Z"⟩, 12) := ⟨⟨by decide +kernel, by decide +kernel⟩, List.mem_of_getElem? (i := 1314) (by decide +kernel), List.mem_of_getElem? (i := 1629) (by decide +kernel), List.mem_of_getElem? (i := 1630) (by decide +kernel)⟩
theorem lw_p82 : lw_okq (⟨"SpiceQuayModel", "isValue", "(LSpiceQuayModel$Sheet;)Z"⟩, 12) := ⟨⟨by decide +kernel, by decide +kernel⟩, List.mem_of_getElem? (i := 1314) (by decide +kernel), List.mem_of_getElem? (i := 1633) (by decide +kernel), List.mem_of_getElem? (i := 1634) (by decide +kernel)⟩
theorem lw_p83 : lw_okq (⟨"SpiceQuayModel", "eatIn", "(LSpiceQuayModel$Sheet;II)Z"⟩, 12) := ⟨⟨by decide +kernel, by decide +kernel⟩, List.mem_of_getElem? (i := 1314) (by decide +kernel), List.mem_of_getElem? (i := 1637) (by decide +kernel), List.mem_of_getElem? (i := 1638) (by decide +kernel)⟩
theorem lw_p84 : lw_okq (⟨"SpiceQuayModel", "errorOf", "(LSpiceQuayModel$Sheet;I)I"⟩, 12) := ⟨⟨by decide +kernel, by decide +kernel⟩, List.mem_of_getElem? (i := 1314) (by decide +kernel), List.mem_of_getElem? (i := 1641) (by decide +kernel), List.mem_of_getElem? (i := 1642) (by decide +kernel)⟩
theorem lw_p85 : lw_okq (⟨"SpiceQuayModel", "errorOfName", "(LSpiceQuayModel$Sheet;I)I"⟩, 12) := ⟨⟨by decide +kernel, by decide +kernel⟩, List.mem_of_getElem? (i := 1314) (by decide +kernel), List.mem_of_getElem? (i := 1645) (by decide +kernel), List.mem_of_getElem? (i := 1646) (by decide +kernel)⟩
theorem lw_p86 : lw_okq (⟨"SpiceQuayModel", "errorOfNew", "(LSpiceQuayModel$Sheet;II)I"⟩, 12) := ⟨⟨by decide +kernel, by decide +kernel⟩, List.mem_of_getElem? (i := 1314) (by decide +kernel), List.mem_of_getElem? (i := 1649) (by decide +kernel), List.mem_of_getElem? (i := 1650) (by decide +kernel)⟩
theorem lw_p87 : lw_okq (⟨"SpiceQuayModel", "manyOf", "(LSpiceQuayModel$Sheet;I)I"⟩, 12) := ⟨⟨by decide +kernel, by decide +kernel⟩, List.mem_of_getElem? (i := 1314) (by decide +kernel), List.mem_of_getElem? (i := 1653) (by decide +kernel), List.mem_of_getElem? (i := 1654) (by decide +kernel)⟩
theorem lw_p88 : lw_okq (⟨"SpiceQuayModel", "namesOf", "(LSpiceQuayModel$Sheet;I)[I"⟩, 12) := ⟨⟨by decide +kernel, by decide +kernel⟩, List.mem_of_getElem? (i := 1314) (by decide +kernel), List.mem_of_getElem? (i := 1657) (by decide +kernel), List.mem_of_getElem? (i := 1658) (by decide +kernel)⟩
theorem lw_p89 : lw_okq (⟨"SpiceQuayModel", "find", "(LSpiceQuayModel$Sheet;[III)I"⟩, 12) := ⟨⟨by decide +kernel, by decide +kernel⟩, List.mem_of_getElem? (i := 1314) (by decide +kernel), List.mem_of_getElem? (i := 1661) (by decide +kernel), List.mem_of_getElem? (i := 1662) (by decide +kernel)⟩
theorem lw_p90 : lw_okq (⟨"SpiceQuayModel", "areSame", "(LSpiceQuayModel$Sheet;II)Z"⟩, 12) := ⟨⟨by decide +kernel, by decide +kernel⟩, List.mem_of_getElem? (i := 1314) (by decide +kernel), List.mem_of_getElem? (i := 1665) (by decide +kernel), List.mem_of_getElem? (i := 1666) (by decide +kernel)⟩
theorem lw_p91 : lw_okq (⟨"SpiceQuayModel", "errorOfNumber", "(LSpiceQuayModel$Sheet;I)I"⟩, 12) := ⟨⟨by decide +kernel, by decide +kernel⟩, List.mem_of_getElem? (i := 1314) (by decide +kernel), List.mem_of_getElem? (i := 1672) (by decide +kernel), List.mem_of_getElem? (i := 1673) (by decide +kernel)⟩
theorem lw_p92 : lw_okq (⟨"SpiceQuayModel", "number", "(LSpiceQuayModel$Sheet;I)I"⟩, 12) := ⟨⟨by decide +kernel, by decide +kernel⟩, List.mem_of_getElem? (i := 1314) (by decide +kernel), List.mem_of_getElem? (i := 1676) (by decide +kernel), List.mem_of_getElem? (i := 1677) (by decide +kernel)⟩
theorem lw_p93 : lw_okq (⟨"SpiceQuayModel", "errorOfOrder", "(LSpiceQuayModel$Sheet;I)I"⟩, 12) := ⟨⟨by decide +kernel, by decide +kernel⟩, List.mem_of_getElem? (i := 1314) (by decide +kernel), List.mem_of_getElem? (i := 1683) (by decide +kernel), List.mem_of_getElem? (i := 1684) (by decide +kernel)⟩
theorem lw_p94 : lw_okq (⟨"SpiceQuayModel", "counted", "(LSpiceQuayModel$State;I)I"⟩, 12) := ⟨⟨by decide +kernel, by decide +kernel⟩, List.mem_of_getElem? (i := 1314) (by decide +kernel), List.mem_of_getElem? (i := 1701) (by decide +kernel), List.mem_of_getElem? (i := 1702) (by decide +kernel)⟩
theorem lw_p95 : lw_okq (⟨"SpiceQuayModel", "weightOf", "(LSpiceQuayModel$State;)I"⟩, 12) := ⟨⟨by decide +kernel, by decide +kernel⟩, List.mem_of_getElem? (i := 1314) (by decide +kernel), List.mem_of_getElem? (i := 1705) (by decide +kernel), List.mem_of_getElem? (i := 1706) (by decide +kernel)⟩
def lw_privs_6 : List (MethodName × Nat) := [(⟨"SpiceQuayModel", "isSum", "(LSpiceQuayModel$Sheet;)Z"⟩, 12), (⟨"SpiceQuayModel", "isProduct", "(LSpiceQuayModel$Sheet;)Z"⟩, 12), (⟨"SpiceQuayModel", "isValue", "(LSpiceQuayModel$Sheet;)Z"⟩, 12), (⟨"SpiceQuayModel", "eatIn", "(LSpiceQuayModel$Sheet;II)Z"⟩, 12), (⟨"SpiceQuayModel", "errorOf", "(LSpiceQuayModel$Sheet;I)I"⟩, 12), (⟨"SpiceQuayModel", "errorOfName", "(LSpiceQuayModel$Sheet;I)I"⟩, 12), (⟨"SpiceQuayModel", "errorOfNew", "(LSpiceQuayModel$Sheet;II)I"⟩, 12), (⟨"SpiceQuayModel", "manyOf", "(LSpiceQuayModel$Sheet;I)I"⟩, 12), (⟨"SpiceQuayModel", "namesOf", "(LSpiceQuayModel$Sheet;I)[I"⟩, 12), (⟨"SpiceQuayModel", "find", "(LSpiceQuayModel$Sheet;[III)I"⟩, 12), (⟨"SpiceQuayModel", "areSame", "(LSpiceQuayModel$Sheet;II)Z"⟩, 12), (⟨"SpiceQuayModel", "errorOfNumber", "(LSpiceQuayModel$Sheet;I)I"⟩, 12), (⟨"SpiceQuayModel", "number", "(LSpiceQuayModel$Sheet;I)I"⟩, 12), (⟨"SpiceQuayModel", "errorOfOrder", "(LSpiceQuayModel$Sheet;I)I"⟩, 12), (⟨"SpiceQuayModel", "counted", "(LSpiceQuayModel$State;I)I"⟩, 12), (⟨"SpiceQuayModel", "weightOf", "(LSpiceQuayModel$State;)I"⟩, 12)]
theorem lw_r6 : ∀ q ∈ lw_privs_6, lw_okq q := List.forall_mem_cons.mpr ⟨lw_p80, List.forall_mem_cons.mpr ⟨lw_p81, List.forall_mem_cons.mpr ⟨lw_p82, List.forall_mem_cons.mpr ⟨lw_p83, List.forall_mem_cons.mpr ⟨lw_p84, List.forall_mem_cons.mpr ⟨lw_p85, List.forall_mem_cons.mpr ⟨lw_p86, List.forall_mem_cons.mpr ⟨lw_p87, List.forall_mem_cons.mpr ⟨lw_p88, List.forall_mem_cons.mpr ⟨lw_p89, List.forall_mem_cons.mpr ⟨lw_p90, List.forall_mem_cons.mpr ⟨lw_p91, List.forall_mem_cons.mpr ⟨lw_p92, List.forall_mem_cons.mpr ⟨lw_p93, List.forall_mem_cons.mpr ⟨lw_p94, List.forall_mem_cons.mpr ⟨lw_p95, fun _ h => absurd h List.not_mem_nil⟩⟩⟩⟩⟩⟩⟩⟩⟩⟩⟩⟩⟩⟩⟩⟩
theorem lw_p96 : lw_okq (⟨"SpiceQuayModel", "isLot", "(I)Z"⟩, 12) := ⟨⟨by decide +kernel, by decide +kernel⟩, List.mem_of_getElem? (i := 1314) (by decide +kernel), List.mem_of_getElem? (i := 1716) (by decide +kernel), List.mem_of_getElem? (i := 1717) (by decide +kernel)⟩
theorem lw_p97 : lw_okq (⟨"SpiceQuayModel", "lotTold", "(II)I"⟩, 12) := ⟨⟨by decide +kernel, by decide +kernel⟩, List.mem_of_getElem? (i := 1314) (by decide +kernel), List.mem_of_getElem? (i := 1720) (by decide +kernel), List.mem_of_getElem? (i := 1721) (by decide +kernel)⟩
theorem lw_p98 : lw_okq (⟨"SpiceQuayModel", "isMerchant", "(I)Z"⟩, 12) := ⟨⟨by decide +kernel, by decide +kernel⟩, List.mem_of_getElem? (i := 1314) (by decide +kernel), List.mem_of_getElem? (i := 1736) (by decide +kernel), List.mem_of_getElem? (i := 1737) (by decide +kernel)⟩
theorem lw_p99 : lw_okq (⟨"SpiceQuayModel", "merchantTold", "(II)I"⟩, 12) := ⟨⟨by decide +kernel, by decide +kernel⟩, List.mem_of_getElem? (i := 1314) (by decide +kernel), List.mem_of_getElem? (i := 1740) (by decide +kernel), List.mem_of_getElem? (i := 1741) (by decide +kernel)⟩
theorem lw_p100 : lw_okq (⟨"SpiceQuayModel", "lotsOf", "(IZ)I"⟩, 12) := ⟨⟨by decide +kernel, by decide +kernel⟩, List.mem_of_getElem? (i := 1314) (by decide +kernel), List.mem_of_getElem? (i := 1756) (by decide +kernel), List.mem_of_getElem? (i := 1757) (by decide +kernel)⟩
theorem lw_p101 : lw_okq (⟨"SpiceQuayModel", "guildTold", "(II)I"⟩, 12) := ⟨⟨by decide +kernel, by decide +kernel⟩, List.mem_of_getElem? (i := 1314) (by decide +kernel), List.mem_of_getElem? (i := 1764) (by decide +kernel), List.mem_of_getElem? (i := 1765) (by decide +kernel)⟩
theorem lw_p102 : lw_okq (⟨"SpiceQuayModel", "orderTold", "(II)I"⟩, 12) := ⟨⟨by decide +kernel, by decide +kernel⟩, List.mem_of_getElem? (i := 1314) (by decide +kernel), List.mem_of_getElem? (i := 1772) (by decide +kernel), List.mem_of_getElem? (i := 1773) (by decide +kernel)⟩
theorem lw_p103 : lw_okq (⟨"SpiceQuayModel", "can", "(LSpiceQuayModel$State;I)Z"⟩, 12) := ⟨⟨by decide +kernel, by decide +kernel⟩, List.mem_of_getElem? (i := 1314) (by decide +kernel), List.mem_of_getElem? (i := 1776) (by decide +kernel), List.mem_of_getElem? (i := 1777) (by decide +kernel)⟩
theorem lw_p104 : lw_okq (⟨"SpiceQuayModel", "holds", "(LSpiceQuayModel$State;I)Z"⟩, 12) := ⟨⟨by decide +kernel, by decide +kernel⟩, List.mem_of_getElem? (i := 1314) (by decide +kernel), List.mem_of_getElem? (i := 1780) (by decide +kernel), List.mem_of_getElem? (i := 1781) (by decide +kernel)⟩
theorem lw_p105 : lw_okq (⟨"SpiceQuayModel", "test", "()Z"⟩, 12) := ⟨⟨by decide +kernel, by decide +kernel⟩, List.mem_of_getElem? (i := 1314) (by decide +kernel), List.mem_of_getElem? (i := 1784) (by decide +kernel), List.mem_of_getElem? (i := 1785) (by decide +kernel)⟩
theorem lw_p106 : lw_okq (⟨"SpiceQuayModel", "both", "()Z"⟩, 12) := ⟨⟨by decide +kernel, by decide +kernel⟩, List.mem_of_getElem? (i := 1314) (by decide +kernel), List.mem_of_getElem? (i := 1788) (by decide +kernel), List.mem_of_getElem? (i := 1789) (by decide +kernel)⟩
theorem lw_p107 : lw_okq (⟨"SpiceQuayModel", "single", "()Z"⟩, 12) := ⟨⟨by decide +kernel, by decide +kernel⟩, List.mem_of_getElem? (i := 1314) (by decide +kernel), List.mem_of_getElem? (i := 1792) (by decide +kernel), List.mem_of_getElem? (i := 1793) (by decide +kernel)⟩
theorem lw_p108 : lw_okq (⟨"SpiceQuayModel", "goesBy", "(I)Z"⟩, 12) := ⟨⟨by decide +kernel, by decide +kernel⟩, List.mem_of_getElem? (i := 1314) (by decide +kernel), List.mem_of_getElem? (i := 1796) (by decide +kernel), List.mem_of_getElem? (i := 1797) (by decide +kernel)⟩
theorem lw_p109 : lw_okq (⟨"SpiceQuayModel", "sum", "()I"⟩, 12) := ⟨⟨by decide +kernel, by decide +kernel⟩, List.mem_of_getElem? (i := 1314) (by decide +kernel), List.mem_of_getElem? (i := 1800) (by decide +kernel), List.mem_of_getElem? (i := 1801) (by decide +kernel)⟩
theorem lw_p110 : lw_okq (⟨"SpiceQuayModel", "product", "()I"⟩, 12) := ⟨⟨by decide +kernel, by decide +kernel⟩, List.mem_of_getElem? (i := 1314) (by decide +kernel), List.mem_of_getElem? (i := 1804) (by decide +kernel), List.mem_of_getElem? (i := 1805) (by decide +kernel)⟩
theorem lw_p111 : lw_okq (⟨"SpiceQuayModel", "value", "()I"⟩, 12) := ⟨⟨by decide +kernel, by decide +kernel⟩, List.mem_of_getElem? (i := 1314) (by decide +kernel), List.mem_of_getElem? (i := 1808) (by decide +kernel), List.mem_of_getElem? (i := 1809) (by decide +kernel)⟩
def lw_privs_7 : List (MethodName × Nat) := [(⟨"SpiceQuayModel", "isLot", "(I)Z"⟩, 12), (⟨"SpiceQuayModel", "lotTold", "(II)I"⟩, 12), (⟨"SpiceQuayModel", "isMerchant", "(I)Z"⟩, 12), (⟨"SpiceQuayModel", "merchantTold", "(II)I"⟩, 12), (⟨"SpiceQuayModel", "lotsOf", "(IZ)I"⟩, 12), (⟨"SpiceQuayModel", "guildTold", "(II)I"⟩, 12), (⟨"SpiceQuayModel", "orderTold", "(II)I"⟩, 12), (⟨"SpiceQuayModel", "can", "(LSpiceQuayModel$State;I)Z"⟩, 12), (⟨"SpiceQuayModel", "holds", "(LSpiceQuayModel$State;I)Z"⟩, 12), (⟨"SpiceQuayModel", "test", "()Z"⟩, 12), (⟨"SpiceQuayModel", "both", "()Z"⟩, 12), (⟨"SpiceQuayModel", "single", "()Z"⟩, 12), (⟨"SpiceQuayModel", "goesBy", "(I)Z"⟩, 12), (⟨"SpiceQuayModel", "sum", "()I"⟩, 12), (⟨"SpiceQuayModel", "product", "()I"⟩, 12), (⟨"SpiceQuayModel", "value", "()I"⟩, 12)]
theorem lw_r7 : ∀ q ∈ lw_privs_7, lw_okq q := List.forall_mem_cons.mpr ⟨lw_p96, List.forall_mem_cons.mpr ⟨lw_p97, List.forall_mem_cons.mpr ⟨lw_p98, List.forall_mem_cons.mpr ⟨lw_p99, List.forall_mem_cons.mpr ⟨lw_p100, List.forall_mem_cons.mpr ⟨lw_p101, List.forall_mem_cons.mpr ⟨lw_p102, List.forall_mem_cons.mpr ⟨lw_p103, List.forall_mem_cons.mpr ⟨lw_p104, List.forall_mem_cons.mpr ⟨lw_p105, List.forall_mem_cons.mpr ⟨lw_p106, List.forall_mem_cons.mpr ⟨lw_p107, List.forall_mem_cons.mpr ⟨lw_p108, List.forall_mem_cons.mpr ⟨lw_p109, List.forall_mem_cons.mpr ⟨lw_p110, List.forall_mem_cons.mpr ⟨lw_p111, fun _ h => absurd h List.not_mem_nil⟩⟩⟩⟩⟩⟩⟩⟩⟩⟩⟩⟩⟩⟩⟩⟩
theorem lw_p112 : lw_okq (⟨"SpiceQuayModel", "ofOne", "(II)I"⟩, 12) := ⟨⟨by decide +kernel, by decide +kernel⟩, List.mem_of_getElem? (i := 1314) (by decide +kernel), List.mem_of_getElem? (i := 1812) (by decide +kernel), List.mem_of_getElem? (i := 1813) (by decide +kernel)⟩
theorem lw_p113 : lw_okq (⟨"SpiceQuayModel", "canSell", "(LSpiceQuayModel$State;I)Z"⟩, 12) := ⟨⟨by decide +kernel, by decide +kernel⟩, List.mem_of_getElem? (i := 1314) (by decide +kernel), List.mem_of_getElem? (i := 1819) (by decide +kernel), List.mem_of_getElem? (i := 1820) (by decide +kernel)⟩
theorem lw_p114 : lw_okq (⟨"SpiceQuayModel", "priceOf", "(LSpiceQuayModel$State;I)I"⟩, 12) := ⟨⟨by decide +kernel, by decide +kernel⟩, List.mem_of_getElem? (i := 1314) (by decide +kernel), List.mem_of_getElem? (i := 1823) (by decide +kernel), List.mem_of_getElem? (i := 1824) (by decide +kernel)⟩
theorem lw_p115 : lw_okq (⟨"SpiceQuayModel", "sumOf", "(LSpiceQuayModel$State;I)I"⟩, 12) := ⟨⟨by decide +kernel, by decide +kernel⟩, List.mem_of_getElem? (i := 1314) (by decide +kernel), List.mem_of_getElem? (i := 1827) (by decide +kernel), List.mem_of_getElem? (i := 1828) (by decide +kernel)⟩
theorem lw_p116 : lw_okq (⟨"SpiceQuayModel", "payOf", "(LSpiceQuayModel$State;I)I"⟩, 12) := ⟨⟨by decide +kernel, by decide +kernel⟩, List.mem_of_getElem? (i := 1314) (by decide +kernel), List.mem_of_getElem? (i := 1831) (by decide +kernel), List.mem_of_getElem? (i := 1832) (by decide +kernel)⟩
theorem lw_p117 : lw_okq (⟨"SpiceQuayModel", "areMerchants", "(II)Z"⟩, 12) := ⟨⟨by decide +kernel, by decide +kernel⟩, List.mem_of_getElem? (i := 1314) (by decide +kernel), List.mem_of_getElem? (i := 1839) (by decide +kernel), List.mem_of_getElem? (i := 1840) (by decide +kernel)⟩
theorem lw_p118 : lw_okq (⟨"SpiceQuayModel", "daysOn", "(LSpiceQuayModel$State;I)I"⟩, 12) := ⟨⟨by decide +kernel, by decide +kernel⟩, List.mem_of_getElem? (i := 1314) (by decide +kernel), List.mem_of_getElem? (i := 1872) (by decide +kernel), List.mem_of_getElem? (i := 1873) (by decide +kernel)⟩
theorem lw_p119 : lw_okq (⟨"SpiceQuayModel", "dayOn", "(LSpiceQuayModel$State;)I"⟩, 12) := ⟨⟨by decide +kernel, by decide +kernel⟩, List.mem_of_getElem? (i := 1314) (by decide +kernel), List.mem_of_getElem? (i := 1876) (by decide +kernel), List.mem_of_getElem? (i := 1877) (by decide +kernel)⟩
theorem lw_p120 : lw_okq (⟨"SpiceQuayModel", "lose", "(LSpiceQuayModel$State;)V"⟩, 12) := ⟨⟨by decide +kernel, by decide +kernel⟩, List.mem_of_getElem? (i := 1314) (by decide +kernel), List.mem_of_getElem? (i := 1880) (by decide +kernel), List.mem_of_getElem? (i := 1881) (by decide +kernel)⟩
theorem lw_p121 : lw_okq (⟨"SpiceQuayModel", "lossOf", "(LSpiceQuayModel$State;I)I"⟩, 12) := ⟨⟨by decide +kernel, by decide +kernel⟩, List.mem_of_getElem? (i := 1314) (by decide +kernel), List.mem_of_getElem? (i := 1884) (by decide +kernel), List.mem_of_getElem? (i := 1885) (by decide +kernel)⟩
theorem lw_p122 : lw_okq (⟨"SpiceQuayModel", "carry", "(LSpiceQuayModel$State;I)Z"⟩, 12) := ⟨⟨by decide +kernel, by decide +kernel⟩, List.mem_of_getElem? (i := 1314) (by decide +kernel), List.mem_of_getElem? (i := 1888) (by decide +kernel), List.mem_of_getElem? (i := 1889) (by decide +kernel)⟩
theorem lw_p123 : lw_okq (⟨"SpiceQuayModel", "weigh", "(LSpiceQuayModel$State;II)V"⟩, 12) := ⟨⟨by decide +kernel, by decide +kernel⟩, List.mem_of_getElem? (i := 1314) (by decide +kernel), List.mem_of_getElem? (i := 1892) (by decide +kernel), List.mem_of_getElem? (i := 1893) (by decide +kernel)⟩
theorem lw_p124 : lw_okq (⟨"SpiceQuayModel", "sell", "(LSpiceQuayModel$State;III)V"⟩, 12) := ⟨⟨by decide +kernel, by decide +kernel⟩, List.mem_of_getElem? (i := 1314) (by decide +kernel), List.mem_of_getElem? (i := 1896) (by decide +kernel), List.mem_of_getElem? (i := 1897) (by decide +kernel)⟩
theorem lw_p125 : lw_okq (⟨"SpiceQuayModel", "pay", "(LSpiceQuayModel$State;III)V"⟩, 12) := ⟨⟨by decide +kernel, by decide +kernel⟩, List.mem_of_getElem? (i := 1314) (by decide +kernel), List.mem_of_getElem? (i := 1900) (by decide +kernel), List.mem_of_getElem? (i := 1901) (by decide +kernel)⟩
theorem lw_p126 : lw_okq (⟨"SpiceQuayModel$State", "copy", "([I[I)V"⟩, 14) := ⟨⟨by decide +kernel, by decide +kernel⟩, List.mem_of_getElem? (i := 1426) (by decide +kernel), List.mem_of_getElem? (i := 1913) (by decide +kernel), List.mem_of_getElem? (i := 1914) (by decide +kernel)⟩
def lw_privs_8 : List (MethodName × Nat) := [(⟨"SpiceQuayModel", "ofOne", "(II)I"⟩, 12), (⟨"SpiceQuayModel", "canSell", "(LSpiceQuayModel$State;I)Z"⟩, 12), (⟨"SpiceQuayModel", "priceOf", "(LSpiceQuayModel$State;I)I"⟩, 12), (⟨"SpiceQuayModel", "sumOf", "(LSpiceQuayModel$State;I)I"⟩, 12), (⟨"SpiceQuayModel", "payOf", "(LSpiceQuayModel$State;I)I"⟩, 12), (⟨"SpiceQuayModel", "areMerchants", "(II)Z"⟩, 12), (⟨"SpiceQuayModel", "daysOn", "(LSpiceQuayModel$State;I)I"⟩, 12), (⟨"SpiceQuayModel", "dayOn", "(LSpiceQuayModel$State;)I"⟩, 12), (⟨"SpiceQuayModel", "lose", "(LSpiceQuayModel$State;)V"⟩, 12), (⟨"SpiceQuayModel", "lossOf", "(LSpiceQuayModel$State;I)I"⟩, 12), (⟨"SpiceQuayModel", "carry", "(LSpiceQuayModel$State;I)Z"⟩, 12), (⟨"SpiceQuayModel", "weigh", "(LSpiceQuayModel$State;II)V"⟩, 12), (⟨"SpiceQuayModel", "sell", "(LSpiceQuayModel$State;III)V"⟩, 12), (⟨"SpiceQuayModel", "pay", "(LSpiceQuayModel$State;III)V"⟩, 12), (⟨"SpiceQuayModel$State", "copy", "([I[I)V"⟩, 14)]
theorem lw_r8 : ∀ q ∈ lw_privs_8, lw_okq q := List.forall_mem_cons.mpr ⟨lw_p112, List.forall_mem_cons.mpr ⟨lw_p113, List.forall_mem_cons.mpr ⟨lw_p114, List.forall_mem_cons.mpr ⟨lw_p115, List.forall_mem_cons.mpr ⟨lw_p116, List.forall_mem_cons.mpr ⟨lw_p117, List.forall_mem_cons.mpr ⟨lw_p118, List.forall_mem_cons.mpr ⟨lw_p119, List.forall_mem_cons.mpr ⟨lw_p120, List.forall_mem_cons.mpr ⟨lw_p121, List.forall_mem_cons.mpr ⟨lw_p122, List.forall_mem_cons.mpr ⟨lw_p123, List.forall_mem_cons.mpr ⟨lw_p124, List.forall_mem_cons.mpr ⟨lw_p125, List.forall_mem_cons.mpr ⟨lw_p126, fun _ h => absurd h List.not_mem_nil⟩⟩⟩⟩⟩⟩⟩⟩⟩⟩⟩⟩⟩⟩⟩
def lw_privs : List (MethodName × Nat) := lw_privs_1 ++ (lw_privs_2 ++ (lw_privs_3 ++ (lw_privs_4 ++ (lw_privs_5 ++ (lw_privs_6 ++ (lw_privs_7 ++ (lw_privs_8)))))))
def lw_tbl : List Cond := k2_sels lw_privs ++ tables_1
theorem lw_privs_ok : ∀ q ∈ lw_privs, lw_okq q := by
  show ∀ q ∈ lw_privs_1 ++ (lw_privs_2 ++ (lw_privs_3 ++ (lw_privs_4 ++ (lw_privs_5 ++ (lw_privs_6 ++ (lw_privs_7 ++ (lw_privs_8))))))), lw_okq q
  exact List.forall_mem_append.mpr ⟨lw_r1, List.forall_mem_append.mpr ⟨lw_r2, List.forall_mem_append.mpr ⟨lw_r3, List.forall_mem_append.mpr ⟨lw_r4, List.forall_mem_append.mpr ⟨lw_r5, List.forall_mem_append.mpr ⟨lw_r6, List.forall_mem_append.mpr ⟨lw_r7, lw_r8⟩⟩⟩⟩⟩⟩⟩
/-- the streams that the claim lets the run draw from -/
abbrev lw_cs : List Choice := [Jvm.Choice.named "NaN.bits"]
theorem lw_bits : nanBits ∈ lw_cs := by first | decide | exact List.mem_cons_self | simp [lw_cs, nanBits]
def RX0 : String := "SpiceQuay$Days"
def TX0 : u_T := fun k => match k with
  | 0 => ("SpiceQuay$Days", "plan", "LSpiceQuay$Plan;", true)
  | 1 => ("SpiceQuay$Days", "stand", "LSpiceQuay$Stand;", true)
  | _ => ("SpiceQuay$Days", "reckoner", "LSpiceQuay$Reckoner;", true)
def tyX0 : Nat → FieldType := fun k => match k with
  | 0 => .object "SpiceQuay$Plan"
  | 1 => .object "SpiceQuay$Stand"
  | _ => .object "SpiceQuay$Reckoner"
abbrev wsX00 : List Cond := u_ws RX0 TX0 3
theorem nmX0 : ∀ a, a < 3 → ∀ b, b < 3 → a ≠ b → (TX0 a).2.1 ≠ (TX0 b).2.1 := by decide +kernel
theorem tyX0_ok : ∀ k, k < 3 → parseFieldDescriptor (TX0 k).2.2.1 = some (tyX0 k) := by decide +kernel
abbrev cX0_init : ByteArray := prog_2_method_1_code
def yX0_init : MethodName := ⟨RX0, "<init>", "(LSpiceQuay$Plan;LSpiceQuay$Stand;)V"⟩
abbrev cX0_goOn : ByteArray := prog_2_method_2_code
def yX0_goOn : MethodName := ⟨RX0, "goOn", "(I)I"⟩
abbrev cX0_followOrders : ByteArray := prog_2_method_3_code
def yX0_followOrders : MethodName := ⟨RX0, "followOrders", "()I"⟩
abbrev cX0_wouldCarryOut : ByteArray := prog_2_method_4_code
def yX0_wouldCarryOut : MethodName := ⟨RX0, "wouldCarryOut", "(I)Z"⟩
abbrev cX0_carryOut : ByteArray := prog_2_method_5_code
def yX0_carryOut : MethodName := ⟨RX0, "carryOut", "(I)V"⟩
abbrev cX0_canWeigh : ByteArray := prog_2_method_6_code
def yX0_canWeigh : MethodName := ⟨RX0, "canWeigh", "(II)Z"⟩
abbrev cX0_weigh : ByteArray := prog_2_method_7_code
def yX0_weigh : MethodName := ⟨RX0, "weigh", "(II)V"⟩
abbrev cX0_canSell : ByteArray := prog_2_method_8_code
def yX0_canSell : MethodName := ⟨RX0, "canSell", "(III)Z"⟩
abbrev cX0_sell : ByteArray := prog_2_method_9_code
def yX0_sell : MethodName := ⟨RX0, "sell", "(III)V"⟩
abbrev cX0_price : ByteArray := prog_2_method_10_code
def yX0_price : MethodName := ⟨RX0, "price", "(II)I"⟩
abbrev cX0_due : ByteArray := prog_2_method_11_code
def yX0_due : MethodName := ⟨RX0, "due", "(III)I"⟩
abbrev cX0_payBack : ByteArray := prog_2_method_12_code
def yX0_payBack : MethodName := ⟨RX0, "payBack", "(III)V"⟩
def RX1 : String := "SpiceQuay$Debts"
def TX1 : u_T := fun k => match k with
  | 0 => ("SpiceQuay$Debts", "owed", "LSpiceQuay$Row;", true)
  | _ => ("SpiceQuay$Debts", "reached", "LSpiceQuay$Row;", true)
def tyX1 : Nat → FieldType := fun k => match k with
  | 0 => .object "SpiceQuay$Row"
  | _ => .object "SpiceQuay$Row"
abbrev wsX10 : List Cond := u_ws RX1 TX1 2
theorem nmX1 : ∀ a, a < 2 → ∀ b, b < 2 → a ≠ b → (TX1 a).2.1 ≠ (TX1 b).2.1 := by decide +kernel
theorem tyX1_ok : ∀ k, k < 2 → parseFieldDescriptor (TX1 k).2.2.1 = some (tyX1 k) := by decide +kernel
abbrev cX1_init : ByteArray := prog_3_method_1_code
def yX1_init : MethodName := ⟨RX1, "<init>", "()V"⟩
abbrev cX1_forget : ByteArray := prog_3_method_2_code
def yX1_forget : MethodName := ⟨RX1, "forget", "()V"⟩
abbrev cX1_copyFrom : ByteArray := prog_3_method_3_code
def yX1_copyFrom : MethodName := ⟨RX1, "copyFrom", "(LSpiceQuay$Debts;)V"⟩
abbrev cX1_between : ByteArray := prog_3_method_4_code
def yX1_between : MethodName := ⟨RX1, "between", "(II)I"⟩
abbrev cX1_grow : ByteArray := prog_3_method_5_code
def yX1_grow : MethodName := ⟨RX1, "grow", "(III)V"⟩
abbrev cX1_growAll : ByteArray := prog_3_method_6_code
def yX1_growAll : MethodName := ⟨RX1, "growAll", "()V"⟩
abbrev cX1_sumOf : ByteArray := prog_3_method_7_code
def yX1_sumOf : MethodName := ⟨RX1, "sumOf", "(I)I"⟩
abbrev cX1_sumOwedTo : ByteArray := prog_3_method_8_code
def yX1_sumOwedTo : MethodName := ⟨RX1, "sumOwedTo", "(I)I"⟩
abbrev cX1_sumOfAll : ByteArray := prog_3_method_9_code
def yX1_sumOfAll : MethodName := ⟨RX1, "sumOfAll", "()I"⟩
abbrev cX1_fewestFromTo : ByteArray := prog_3_method_10_code
def yX1_fewestFromTo : MethodName := ⟨RX1, "fewestFromTo", "(II)I"⟩
abbrev cX1_reachBy : ByteArray := prog_3_method_11_code
def yX1_reachBy : MethodName := ⟨RX1, "reachBy", "(I)V"⟩
abbrev cX1_widestRing : ByteArray := prog_3_method_12_code
def yX1_widestRing : MethodName := ⟨RX1, "widestRing", "(I)I"⟩
abbrev cX1_widen : ByteArray := prog_3_method_13_code
def yX1_widen : MethodName := ⟨RX1, "widen", "()V"⟩
def RX2 : String := "SpiceQuay$Kind"
def TX2 : u_T := fun k => match k with
  | _ => ("", "", "", false)
def tyX2 : Nat → FieldType := fun k => match k with
  | _ => .int
abbrev wsX20 : List Cond := u_ws RX2 TX2 0
theorem nmX2 : ∀ a, a < 0 → ∀ b, b < 0 → a ≠ b → (TX2 a).2.1 ≠ (TX2 b).2.1 := by decide +kernel
theorem tyX2_ok : ∀ k, k < 0 → parseFieldDescriptor (TX2 k).2.2.1 = some (tyX2 k) := by decide +kernel
abbrev cX2_joinsTests : ByteArray := prog_4_method_2_code
def yX2_joinsTests : MethodName := ⟨RX2, "joinsTests", "(I)Z"⟩
abbrev cX2_compares : ByteArray := prog_4_method_3_code
def yX2_compares : MethodName := ⟨RX2, "compares", "(I)Z"⟩
abbrev cX2_joinsSums : ByteArray := prog_4_method_4_code
def yX2_joinsSums : MethodName := ⟨RX2, "joinsSums", "(I)Z"⟩
def RX3 : String := "SpiceQuay$Names"
def TX3 : u_T := fun k => match k with
  | 0 => ("SpiceQuay$Names", "names", "LSpiceQuay$Row;", true)
  | 1 => ("SpiceQuay$Names", "most", "I", true)
  | _ => ("SpiceQuay$Names", "told", "I", false)
def tyX3 : Nat → FieldType := fun k => match k with
  | 0 => .object "SpiceQuay$Row"
  | 1 => .int
  | _ => .int
abbrev wsX30 : List Cond := u_ws RX3 TX3 3
theorem nmX3 : ∀ a, a < 3 → ∀ b, b < 3 → a ≠ b → (TX3 a).2.1 ≠ (TX3 b).2.1 := by decide +kernel
theorem tyX3_ok : ∀ k, k < 3 → parseFieldDescriptor (TX3 k).2.2.1 = some (tyX3 k) := by decide +kernel
abbrev cX3_init : ByteArray := prog_5_method_1_code
def yX3_init : MethodName := ⟨RX3, "<init>", "(I)V"⟩
abbrev cX3_forget : ByteArray := prog_5_method_2_code
def yX3_forget : MethodName := ⟨RX3, "forget", "()V"⟩
abbrev cX3_told : ByteArray := prog_5_method_3_code
def yX3_told : MethodName := ⟨RX3, "told", "()I"⟩
abbrev cX3_isFull : ByteArray := prog_5_method_4_code
def yX3_isFull : MethodName := ⟨RX3, "isFull", "()Z"⟩
abbrev cX3_find : ByteArray := prog_5_method_5_code
def yX3_find : MethodName := ⟨RX3, "find", "(I)I"⟩
abbrev cX3_add : ByteArray := prog_5_method_6_code
def yX3_add : MethodName := ⟨RX3, "add", "(I)I"⟩
def RX4 : String := "SpiceQuay$Plan"
def TX4 : u_T := fun k => match k with
  | 0 => ("SpiceQuay$Plan", "spices", "I", false)
  | 1 => ("SpiceQuay$Plan", "guilds", "I", false)
  | 2 => ("SpiceQuay$Plan", "merchants", "I", false)
  | 3 => ("SpiceQuay$Plan", "lots", "I", false)
  | 4 => ("SpiceQuay$Plan", "orders", "I", false)
  | 5 => ("SpiceQuay$Plan", "loss", "LSpiceQuay$Row;", true)
  | 6 => ("SpiceQuay$Plan", "fee", "LSpiceQuay$Row;", true)
  | 7 => ("SpiceQuay$Plan", "bias", "LSpiceQuay$Row;", true)
  | 8 => ("SpiceQuay$Plan", "coins", "LSpiceQuay$Row;", true)
  | 9 => ("SpiceQuay$Plan", "credit", "LSpiceQuay$Row;", true)
  | 10 => ("SpiceQuay$Plan", "spice", "LSpiceQuay$Row;", true)
  | 11 => ("SpiceQuay$Plan", "sacks", "LSpiceQuay$Row;", true)
  | 12 => ("SpiceQuay$Plan", "owner", "LSpiceQuay$Row;", true)
  | 13 => ("SpiceQuay$Plan", "deed", "LSpiceQuay$Row;", true)
  | 14 => ("SpiceQuay$Plan", "doer", "LSpiceQuay$Row;", true)
  | 15 => ("SpiceQuay$Plan", "other", "LSpiceQuay$Row;", true)
  | 16 => ("SpiceQuay$Plan", "sumFrom", "LSpiceQuay$Row;", true)
  | 17 => ("SpiceQuay$Plan", "testFrom", "LSpiceQuay$Row;", true)
  | 18 => ("SpiceQuay$Plan", "testEnd", "LSpiceQuay$Row;", true)
  | _ => ("SpiceQuay$Plan", "steps", "LSpiceQuay$Steps;", true)
def tyX4 : Nat → FieldType := fun k => match k with
  | 0 => .int
  | 1 => .int
  | 2 => .int
  | 3 => .int
  | 4 => .int
  | 5 => .object "SpiceQuay$Row"
  | 6 => .object "SpiceQuay$Row"
  | 7 => .object "SpiceQuay$Row"
  | 8 => .object "SpiceQuay$Row"
  | 9 => .object "SpiceQuay$Row"
  | 10 => .object "SpiceQuay$Row"
  | 11 => .object "SpiceQuay$Row"
  | 12 => .object "SpiceQuay$Row"
  | 13 => .object "SpiceQuay$Row"
  | 14 => .object "SpiceQuay$Row"
  | 15 => .object "SpiceQuay$Row"
  | 16 => .object "SpiceQuay$Row"
  | 17 => .object "SpiceQuay$Row"
  | 18 => .object "SpiceQuay$Row"
  | _ => .object "SpiceQuay$Steps"
abbrev wsX40 : List Cond := u_ws RX4 TX4 20
theorem nmX4 : ∀ a, a < 20 → ∀ b, b < 20 → a ≠ b → (TX4 a).2.1 ≠ (TX4 b).2.1 := by decide +kernel
theorem tyX4_ok : ∀ k, k < 20 → parseFieldDescriptor (TX4 k).2.2.1 = some (tyX4 k) := by decide +kernel
abbrev cX4_init : ByteArray := prog_6_method_1_code
def yX4_init : MethodName := ⟨RX4, "<init>", "()V"⟩
abbrev cX4_copyFrom : ByteArray := prog_6_method_2_code
def yX4_copyFrom : MethodName := ⟨RX4, "copyFrom", "(LSpiceQuay$Plan;)V"⟩
def RX5 : String := "SpiceQuay$Reader"
def TX5 : u_T := fun k => match k with
  | 0 => ("SpiceQuay$Reader", "draft", "LSpiceQuay$Plan;", true)
  | 1 => ("SpiceQuay$Reader", "tokens", "LSpiceQuay$Tokens;", true)
  | 2 => ("SpiceQuay$Reader", "spices", "LSpiceQuay$Names;", true)
  | 3 => ("SpiceQuay$Reader", "guilds", "LSpiceQuay$Names;", true)
  | 4 => ("SpiceQuay$Reader", "merchants", "LSpiceQuay$Names;", true)
  | 5 => ("SpiceQuay$Reader", "lots", "LSpiceQuay$Names;", true)
  | 6 => ("SpiceQuay$Reader", "next", "I", false)
  | 7 => ("SpiceQuay$Reader", "fault", "I", false)
  | _ => ("SpiceQuay$Reader", "faultToken", "I", false)
def tyX5 : Nat → FieldType := fun k => match k with
  | 0 => .object "SpiceQuay$Plan"
  | 1 => .object "SpiceQuay$Tokens"
  | 2 => .object "SpiceQuay$Names"
  | 3 => .object "SpiceQuay$Names"
  | 4 => .object "SpiceQuay$Names"
  | 5 => .object "SpiceQuay$Names"
  | 6 => .int
  | 7 => .int
  | _ => .int
abbrev wsX50 : List Cond := u_ws RX5 TX5 9
theorem nmX5 : ∀ a, a < 9 → ∀ b, b < 9 → a ≠ b → (TX5 a).2.1 ≠ (TX5 b).2.1 := by decide +kernel
theorem tyX5_ok : ∀ k, k < 9 → parseFieldDescriptor (TX5 k).2.2.1 = some (tyX5 k) := by decide +kernel
abbrev cX5_init : ByteArray := prog_7_method_1_code
def yX5_init : MethodName := ⟨RX5, "<init>", "(LSpiceQuay$Tokens;)V"⟩
abbrev cX5_faultPlace : ByteArray := prog_7_method_2_code
def yX5_faultPlace : MethodName := ⟨RX5, "faultPlace", "()I"⟩
abbrev cX5_read : ByteArray := prog_7_method_3_code
def yX5_read : MethodName := ⟨RX5, "read", "()I"⟩
abbrev cX5_begin : ByteArray := prog_7_method_4_code
def yX5_begin : MethodName := ⟨RX5, "begin", "()V"⟩
abbrev cX5_spiceLine : ByteArray := prog_7_method_5_code
def yX5_spiceLine : MethodName := ⟨RX5, "spiceLine", "()V"⟩
abbrev cX5_guildLine : ByteArray := prog_7_method_6_code
def yX5_guildLine : MethodName := ⟨RX5, "guildLine", "()V"⟩
abbrev cX5_merchantLine : ByteArray := prog_7_method_7_code
def yX5_merchantLine : MethodName := ⟨RX5, "merchantLine", "()V"⟩
abbrev cX5_lotLine : ByteArray := prog_7_method_8_code
def yX5_lotLine : MethodName := ⟨RX5, "lotLine", "()V"⟩
abbrev cX5_orderLine : ByteArray := prog_7_method_9_code
def yX5_orderLine : MethodName := ⟨RX5, "orderLine", "(I)V"⟩
abbrev cX5_test : ByteArray := prog_7_method_10_code
def yX5_test : MethodName := ⟨RX5, "test", "(I)V"⟩
abbrev cX5_both : ByteArray := prog_7_method_11_code
def yX5_both : MethodName := ⟨RX5, "both", "(I)V"⟩
abbrev cX5_single : ByteArray := prog_7_method_12_code
def yX5_single : MethodName := ⟨RX5, "single", "(I)V"⟩
abbrev cX5_turnedTest : ByteArray := prog_7_method_13_code
def yX5_turnedTest : MethodName := ⟨RX5, "turnedTest", "(I)V"⟩
abbrev cX5_testInBrackets : ByteArray := prog_7_method_14_code
def yX5_testInBrackets : MethodName := ⟨RX5, "testInBrackets", "(I)V"⟩
abbrev cX5_sum : ByteArray := prog_7_method_15_code
def yX5_sum : MethodName := ⟨RX5, "sum", "(I)V"⟩
abbrev cX5_product : ByteArray := prog_7_method_16_code
def yX5_product : MethodName := ⟨RX5, "product", "(I)V"⟩
abbrev cX5_value : ByteArray := prog_7_method_17_code
def yX5_value : MethodName := ⟨RX5, "value", "(I)V"⟩
abbrev cX5_turnedValue : ByteArray := prog_7_method_18_code
def yX5_turnedValue : MethodName := ⟨RX5, "turnedValue", "(I)V"⟩
abbrev cX5_sumInBrackets : ByteArray := prog_7_method_19_code
def yX5_sumInBrackets : MethodName := ⟨RX5, "sumInBrackets", "(I)V"⟩
abbrev cX5_oneOfTwoSums : ByteArray := prog_7_method_20_code
def yX5_oneOfTwoSums : MethodName := ⟨RX5, "oneOfTwoSums", "(II)V"⟩
abbrev cX5_seen : ByteArray := prog_7_method_21_code
def yX5_seen : MethodName := ⟨RX5, "seen", "()I"⟩
abbrev cX5_take : ByteArray := prog_7_method_22_code
def yX5_take : MethodName := ⟨RX5, "take", "(I)V"⟩
abbrev cX5_goesDeeper : ByteArray := prog_7_method_23_code
def yX5_goesDeeper : MethodName := ⟨RX5, "goesDeeper", "(II)Z"⟩
abbrev cX5_takeComparison : ByteArray := prog_7_method_24_code
def yX5_takeComparison : MethodName := ⟨RX5, "takeComparison", "()I"⟩
abbrev cX5_takeNewName : ByteArray := prog_7_method_25_code
def yX5_takeNewName : MethodName := ⟨RX5, "takeNewName", "(LSpiceQuay$Names;)I"⟩
abbrev cX5_takeName : ByteArray := prog_7_method_26_code
def yX5_takeName : MethodName := ⟨RX5, "takeName", "(LSpiceQuay$Names;)I"⟩
abbrev cX5_takeNumber : ByteArray := prog_7_method_27_code
def yX5_takeNumber : MethodName := ⟨RX5, "takeNumber", "(II)I"⟩
abbrev cX5_blame : ByteArray := prog_7_method_28_code
def yX5_blame : MethodName := ⟨RX5, "blame", "(II)V"⟩
abbrev cX5_fail : ByteArray := prog_7_method_29_code
def yX5_fail : MethodName := ⟨RX5, "fail", "()V"⟩
def RX6 : String := "SpiceQuay$Reckoner"
def TX6 : u_T := fun k => match k with
  | 0 => ("SpiceQuay$Reckoner", "steps", "LSpiceQuay$Steps;", true)
  | 1 => ("SpiceQuay$Reckoner", "stand", "LSpiceQuay$Stand;", true)
  | 2 => ("SpiceQuay$Reckoner", "heap", "LSpiceQuay$Row;", true)
  | _ => ("SpiceQuay$Reckoner", "height", "I", false)
def tyX6 : Nat → FieldType := fun k => match k with
  | 0 => .object "SpiceQuay$Steps"
  | 1 => .object "SpiceQuay$Stand"
  | 2 => .object "SpiceQuay$Row"
  | _ => .int
abbrev wsX60 : List Cond := u_ws RX6 TX6 4
theorem nmX6 : ∀ a, a < 4 → ∀ b, b < 4 → a ≠ b → (TX6 a).2.1 ≠ (TX6 b).2.1 := by decide +kernel
theorem tyX6_ok : ∀ k, k < 4 → parseFieldDescriptor (TX6 k).2.2.1 = some (tyX6 k) := by decide +kernel
abbrev cX6_init : ByteArray := prog_8_method_1_code
def yX6_init : MethodName := ⟨RX6, "<init>", "(LSpiceQuay$Steps;LSpiceQuay$Stand;)V"⟩
abbrev cX6_reckon : ByteArray := prog_8_method_2_code
def yX6_reckon : MethodName := ⟨RX6, "reckon", "(II)I"⟩
abbrev cX6_put : ByteArray := prog_8_method_3_code
def yX6_put : MethodName := ⟨RX6, "put", "(I)V"⟩
abbrev cX6_take : ByteArray := prog_8_method_4_code
def yX6_take : MethodName := ⟨RX6, "take", "()I"⟩
abbrev cX6_value : ByteArray := prog_8_method_5_code
def yX6_value : MethodName := ⟨RX6, "value", "(III)I"⟩
abbrev cX6_joined : ByteArray := prog_8_method_6_code
def yX6_joined : MethodName := ⟨RX6, "joined", "(III)I"⟩
abbrev cX6_holds : ByteArray := prog_8_method_7_code
def yX6_holds : MethodName := ⟨RX6, "holds", "(III)Z"⟩
def RX7 : String := "SpiceQuay$Row"
def TX7 : u_T := fun k => match k with
  | _ => ("SpiceQuay$Row", "cells", "[I", true)
def tyX7 : Nat → FieldType := fun k => match k with
  | _ => .array .int
abbrev wsX70 : List Cond := u_ws RX7 TX7 1
theorem nmX7 : ∀ a, a < 1 → ∀ b, b < 1 → a ≠ b → (TX7 a).2.1 ≠ (TX7 b).2.1 := by decide +kernel
theorem tyX7_ok : ∀ k, k < 1 → parseFieldDescriptor (TX7 k).2.2.1 = some (tyX7 k) := by decide +kernel
abbrev cX7_init : ByteArray := prog_9_method_1_code
def yX7_init : MethodName := ⟨RX7, "<init>", "(I)V"⟩
abbrev cX7_get : ByteArray := prog_9_method_2_code
def yX7_get : MethodName := ⟨RX7, "get", "(I)I"⟩
abbrev cX7_set : ByteArray := prog_9_method_3_code
def yX7_set : MethodName := ⟨RX7, "set", "(II)V"⟩
abbrev cX7_add : ByteArray := prog_9_method_4_code
def yX7_add : MethodName := ⟨RX7, "add", "(II)V"⟩
abbrev cX7_fill : ByteArray := prog_9_method_5_code
def yX7_fill : MethodName := ⟨RX7, "fill", "(I)V"⟩
abbrev cX7_copyFrom : ByteArray := prog_9_method_6_code
def yX7_copyFrom : MethodName := ⟨RX7, "copyFrom", "(LSpiceQuay$Row;)V"⟩
abbrev cX7_sum : ByteArray := prog_9_method_7_code
def yX7_sum : MethodName := ⟨RX7, "sum", "()I"⟩
def RX8 : String := "SpiceQuay$Stand"
def TX8 : u_T := fun k => match k with
  | 0 => ("SpiceQuay$Stand", "plan", "LSpiceQuay$Plan;", true)
  | 1 => ("SpiceQuay$Stand", "day", "I", false)
  | 2 => ("SpiceQuay$Stand", "damp", "I", false)
  | 3 => ("SpiceQuay$Stand", "sold", "I", false)
  | 4 => ("SpiceQuay$Stand", "weighed", "I", false)
  | 5 => ("SpiceQuay$Stand", "paid", "I", false)
  | 6 => ("SpiceQuay$Stand", "weight", "LSpiceQuay$Row;", true)
  | 7 => ("SpiceQuay$Stand", "owner", "LSpiceQuay$Row;", true)
  | 8 => ("SpiceQuay$Stand", "chopGuild", "LSpiceQuay$Row;", true)
  | 9 => ("SpiceQuay$Stand", "chopWeight", "LSpiceQuay$Row;", true)
  | 10 => ("SpiceQuay$Stand", "chopDay", "LSpiceQuay$Row;", true)
  | 11 => ("SpiceQuay$Stand", "coins", "LSpiceQuay$Row;", true)
  | 12 => ("SpiceQuay$Stand", "debts", "LSpiceQuay$Debts;", true)
  | 13 => ("SpiceQuay$Stand", "earned", "LSpiceQuay$Row;", true)
  | _ => ("SpiceQuay$Stand", "done", "LSpiceQuay$Row;", true)
def tyX8 : Nat → FieldType := fun k => match k with
  | 0 => .object "SpiceQuay$Plan"
  | 1 => .int
  | 2 => .int
  | 3 => .int
  | 4 => .int
  | 5 => .int
  | 6 => .object "SpiceQuay$Row"
  | 7 => .object "SpiceQuay$Row"
  | 8 => .object "SpiceQuay$Row"
  | 9 => .object "SpiceQuay$Row"
  | 10 => .object "SpiceQuay$Row"
  | 11 => .object "SpiceQuay$Row"
  | 12 => .object "SpiceQuay$Debts"
  | 13 => .object "SpiceQuay$Row"
  | _ => .object "SpiceQuay$Row"
abbrev wsX80 : List Cond := u_ws RX8 TX8 15
theorem nmX8 : ∀ a, a < 15 → ∀ b, b < 15 → a ≠ b → (TX8 a).2.1 ≠ (TX8 b).2.1 := by decide +kernel
theorem tyX8_ok : ∀ k, k < 15 → parseFieldDescriptor (TX8 k).2.2.1 = some (tyX8 k) := by decide +kernel
abbrev cX8_init : ByteArray := prog_10_method_1_code
def yX8_init : MethodName := ⟨RX8, "<init>", "(LSpiceQuay$Plan;)V"⟩
abbrev cX8_begin : ByteArray := prog_10_method_2_code
def yX8_begin : MethodName := ⟨RX8, "begin", "()V"⟩
abbrev cX8_copyFrom : ByteArray := prog_10_method_3_code
def yX8_copyFrom : MethodName := ⟨RX8, "copyFrom", "(LSpiceQuay$Stand;)V"⟩
abbrev cX8_loseWeight : ByteArray := prog_10_method_4_code
def yX8_loseWeight : MethodName := ⟨RX8, "loseWeight", "()V"⟩
abbrev cX8_moveCoins : ByteArray := prog_10_method_5_code
def yX8_moveCoins : MethodName := ⟨RX8, "moveCoins", "(III)V"⟩
abbrev cX8_setChop : ByteArray := prog_10_method_6_code
def yX8_setChop : MethodName := ⟨RX8, "setChop", "(III)V"⟩
abbrev cX8_takeChop : ByteArray := prog_10_method_7_code
def yX8_takeChop : MethodName := ⟨RX8, "takeChop", "(I)V"⟩
abbrev cX8_ageOfChop : ByteArray := prog_10_method_8_code
def yX8_ageOfChop : MethodName := ⟨RX8, "ageOfChop", "(I)I"⟩
abbrev cX8_canBeSold : ByteArray := prog_10_method_9_code
def yX8_canBeSold : MethodName := ⟨RX8, "canBeSold", "(I)Z"⟩
abbrev cX8_isOverCredit : ByteArray := prog_10_method_10_code
def yX8_isOverCredit : MethodName := ⟨RX8, "isOverCredit", "(I)Z"⟩
abbrev cX8_wealthOf : ByteArray := prog_10_method_11_code
def yX8_wealthOf : MethodName := ⟨RX8, "wealthOf", "(I)I"⟩
abbrev cX8_weightOfAll : ByteArray := prog_10_method_12_code
def yX8_weightOfAll : MethodName := ⟨RX8, "weightOfAll", "()I"⟩
abbrev cX8_tellAll : ByteArray := prog_10_method_13_code
def yX8_tellAll : MethodName := ⟨RX8, "tellAll", "(I)I"⟩
abbrev cX8_tellLot : ByteArray := prog_10_method_14_code
def yX8_tellLot : MethodName := ⟨RX8, "tellLot", "(II)I"⟩
abbrev cX8_tellMerchant : ByteArray := prog_10_method_15_code
def yX8_tellMerchant : MethodName := ⟨RX8, "tellMerchant", "(II)I"⟩
abbrev cX8_tellGuild : ByteArray := prog_10_method_16_code
def yX8_tellGuild : MethodName := ⟨RX8, "tellGuild", "(II)I"⟩
abbrev cX8_lotsOf : ByteArray := prog_10_method_17_code
def yX8_lotsOf : MethodName := ⟨RX8, "lotsOf", "(I)I"⟩
abbrev cX8_weightOfLotsOf : ByteArray := prog_10_method_18_code
def yX8_weightOfLotsOf : MethodName := ⟨RX8, "weightOfLotsOf", "(I)I"⟩
abbrev cX8_lotsWithChopOf : ByteArray := prog_10_method_19_code
def yX8_lotsWithChopOf : MethodName := ⟨RX8, "lotsWithChopOf", "(I)I"⟩
def RX9 : String := "SpiceQuay$Steps"
def TX9 : u_T := fun k => match k with
  | 0 => ("SpiceQuay$Steps", "told", "I", false)
  | 1 => ("SpiceQuay$Steps", "kind", "LSpiceQuay$Row;", true)
  | 2 => ("SpiceQuay$Steps", "one", "LSpiceQuay$Row;", true)
  | _ => ("SpiceQuay$Steps", "other", "LSpiceQuay$Row;", true)
def tyX9 : Nat → FieldType := fun k => match k with
  | 0 => .int
  | 1 => .object "SpiceQuay$Row"
  | 2 => .object "SpiceQuay$Row"
  | _ => .object "SpiceQuay$Row"
abbrev wsX90 : List Cond := u_ws RX9 TX9 4
theorem nmX9 : ∀ a, a < 4 → ∀ b, b < 4 → a ≠ b → (TX9 a).2.1 ≠ (TX9 b).2.1 := by decide +kernel
theorem tyX9_ok : ∀ k, k < 4 → parseFieldDescriptor (TX9 k).2.2.1 = some (tyX9 k) := by decide +kernel
abbrev cX9_init : ByteArray := prog_11_method_1_code
def yX9_init : MethodName := ⟨RX9, "<init>", "()V"⟩
abbrev cX9_add : ByteArray := prog_11_method_2_code
def yX9_add : MethodName := ⟨RX9, "add", "(III)V"⟩
abbrev cX9_copyFrom : ByteArray := prog_11_method_3_code
def yX9_copyFrom : MethodName := ⟨RX9, "copyFrom", "(LSpiceQuay$Steps;)V"⟩
def RX10 : String := "SpiceQuay$Tokens"
def TX10 : u_T := fun k => match k with
  | 0 => ("SpiceQuay$Tokens", "tape", "LSpiceQuay$Row;", true)
  | 1 => ("SpiceQuay$Tokens", "bytes", "I", false)
  | 2 => ("SpiceQuay$Tokens", "found", "I", false)
  | 3 => ("SpiceQuay$Tokens", "kind", "LSpiceQuay$Row;", true)
  | 4 => ("SpiceQuay$Tokens", "place", "LSpiceQuay$Row;", true)
  | 5 => ("SpiceQuay$Tokens", "length", "LSpiceQuay$Row;", true)
  | _ => ("SpiceQuay$Tokens", "value", "LSpiceQuay$Row;", true)
def tyX10 : Nat → FieldType := fun k => match k with
  | 0 => .object "SpiceQuay$Row"
  | 1 => .int
  | 2 => .int
  | 3 => .object "SpiceQuay$Row"
  | 4 => .object "SpiceQuay$Row"
  | 5 => .object "SpiceQuay$Row"
  | _ => .object "SpiceQuay$Row"
abbrev wsX100 : List Cond := u_ws RX10 TX10 7
theorem nmX10 : ∀ a, a < 7 → ∀ b, b < 7 → a ≠ b → (TX10 a).2.1 ≠ (TX10 b).2.1 := by decide +kernel
theorem tyX10_ok : ∀ k, k < 7 → parseFieldDescriptor (TX10 k).2.2.1 = some (tyX10 k) := by decide +kernel
abbrev cX10_init : ByteArray := prog_12_method_1_code
def yX10_init : MethodName := ⟨RX10, "<init>", "(LSpiceQuay$Row;)V"⟩
abbrev cX10_scan : ByteArray := prog_12_method_2_code
def yX10_scan : MethodName := ⟨RX10, "scan", "(I)V"⟩
abbrev cX10_behindBlanks : ByteArray := prog_12_method_3_code
def yX10_behindBlanks : MethodName := ⟨RX10, "behindBlanks", "(I)I"⟩
abbrev cX10_reads : ByteArray := prog_12_method_4_code
def yX10_reads : MethodName := ⟨RX10, "reads", "(I)Z"⟩
abbrev cX10_readsWord : ByteArray := prog_12_method_5_code
def yX10_readsWord : MethodName := ⟨RX10, "readsWord", "(I)Z"⟩
abbrev cX10_readsNumber : ByteArray := prog_12_method_6_code
def yX10_readsNumber : MethodName := ⟨RX10, "readsNumber", "(I)Z"⟩
abbrev cX10_readsSign : ByteArray := prog_12_method_7_code
def yX10_readsSign : MethodName := ⟨RX10, "readsSign", "(II)Z"⟩
abbrev cX10_keyword : ByteArray := prog_12_method_8_code
def yX10_keyword : MethodName := ⟨RX10, "keyword", "(II)I"⟩
abbrev cX10_spells : ByteArray := prog_12_method_9_code
def yX10_spells : MethodName := ⟨RX10, "spells", "(III)Z"⟩
abbrev cX10_firstWithName : ByteArray := prog_12_method_10_code
def yX10_firstWithName : MethodName := ⟨RX10, "firstWithName", "(II)I"⟩
abbrev cX10_isSame : ByteArray := prog_12_method_11_code
def yX10_isSame : MethodName := ⟨RX10, "isSame", "(III)Z"⟩
abbrev cX10_add : ByteArray := prog_12_method_12_code
def yX10_add : MethodName := ⟨RX10, "add", "(IIII)V"⟩
abbrev cX10_isLetter : ByteArray := prog_12_method_13_code
def yX10_isLetter : MethodName := ⟨RX10, "isLetter", "(I)Z"⟩
abbrev cX10_isDigit : ByteArray := prog_12_method_14_code
def yX10_isDigit : MethodName := ⟨RX10, "isDigit", "(I)Z"⟩
def RX11 : String := "SpiceQuay"
def TX11 : u_T := fun k => match k with
  | 0 => ("SpiceQuay", "tape", "LSpiceQuay$Row;", true)
  | 1 => ("SpiceQuay", "tokens", "LSpiceQuay$Tokens;", true)
  | 2 => ("SpiceQuay", "reader", "LSpiceQuay$Reader;", true)
  | 3 => ("SpiceQuay", "plan", "LSpiceQuay$Plan;", true)
  | 4 => ("SpiceQuay", "now", "LSpiceQuay$Stand;", true)
  | 5 => ("SpiceQuay", "days", "LSpiceQuay$Days;", true)
  | 6 => ("SpiceQuay", "ahead", "LSpiceQuay$Stand;", true)
  | 7 => ("SpiceQuay", "daysAhead", "LSpiceQuay$Days;", true)
  | 8 => ("SpiceQuay", "bytes", "I", false)
  | _ => ("SpiceQuay", "errorPlace", "I", false)
def tyX11 : Nat → FieldType := fun k => match k with
  | 0 => .object "SpiceQuay$Row"
  | 1 => .object "SpiceQuay$Tokens"
  | 2 => .object "SpiceQuay$Reader"
  | 3 => .object "SpiceQuay$Plan"
  | 4 => .object "SpiceQuay$Stand"
  | 5 => .object "SpiceQuay$Days"
  | 6 => .object "SpiceQuay$Stand"
  | 7 => .object "SpiceQuay$Days"
  | 8 => .int
  | _ => .int
abbrev wsX110 : List Cond := u_ws RX11 TX11 10
theorem nmX11 : ∀ a, a < 10 → ∀ b, b < 10 → a ≠ b → (TX11 a).2.1 ≠ (TX11 b).2.1 := by decide +kernel
theorem tyX11_ok : ∀ k, k < 10 → parseFieldDescriptor (TX11 k).2.2.1 = some (tyX11 k) := by decide +kernel
abbrev cX11_init : ByteArray := prog_1_method_1_code
def yX11_init : MethodName := ⟨RX11, "<init>", "()V"⟩
abbrev cX11_feed : ByteArray := prog_1_method_2_code
def yX11_feed : MethodName := ⟨RX11, "feed", "(IIIII)I"⟩
abbrev cX11_trim : ByteArray := prog_1_method_3_code
def yX11_trim : MethodName := ⟨RX11, "trim", "(I)I"⟩
abbrev cX11_teach : ByteArray := prog_1_method_4_code
def yX11_teach : MethodName := ⟨RX11, "teach", "()I"⟩
abbrev cX11_errorAt : ByteArray := prog_1_method_5_code
def yX11_errorAt : MethodName := ⟨RX11, "errorAt", "()I"⟩
abbrev cX11_count : ByteArray := prog_1_method_6_code
def yX11_count : MethodName := ⟨RX11, "count", "(I)I"⟩
abbrev cX11_lot : ByteArray := prog_1_method_7_code
def yX11_lot : MethodName := ⟨RX11, "lot", "(II)I"⟩
abbrev cX11_merchant : ByteArray := prog_1_method_8_code
def yX11_merchant : MethodName := ⟨RX11, "merchant", "(II)I"⟩
abbrev cX11_guild : ByteArray := prog_1_method_9_code
def yX11_guild : MethodName := ⟨RX11, "guild", "(II)I"⟩
abbrev cX11_order : ByteArray := prog_1_method_10_code
def yX11_order : MethodName := ⟨RX11, "order", "(II)I"⟩
abbrev cX11_owes : ByteArray := prog_1_method_11_code
def yX11_owes : MethodName := ⟨RX11, "owes", "(II)I"⟩
abbrev cX11_chain : ByteArray := prog_1_method_12_code
def yX11_chain : MethodName := ⟨RX11, "chain", "(II)I"⟩
abbrev cX11_ring : ByteArray := prog_1_method_13_code
def yX11_ring : MethodName := ⟨RX11, "ring", "(I)I"⟩
abbrev cX11_setDamp : ByteArray := prog_1_method_14_code
def yX11_setDamp : MethodName := ⟨RX11, "setDamp", "(I)I"⟩
abbrev cX11_lend : ByteArray := prog_1_method_15_code
def yX11_lend : MethodName := ⟨RX11, "lend", "(III)I"⟩
abbrev cX11_offset : ByteArray := prog_1_method_16_code
def yX11_offset : MethodName := ⟨RX11, "offset", "(II)I"⟩
abbrev cX11_dry : ByteArray := prog_1_method_17_code
def yX11_dry : MethodName := ⟨RX11, "dry", "(I)I"⟩
abbrev cX11_pass : ByteArray := prog_1_method_18_code
def yX11_pass : MethodName := ⟨RX11, "pass", "(I)I"⟩
abbrev cX11_foresee : ByteArray := prog_1_method_19_code
def yX11_foresee : MethodName := ⟨RX11, "foresee", "(II)I"⟩
abbrev cX11_costs : ByteArray := prog_1_method_20_code
def yX11_costs : MethodName := ⟨RX11, "costs", "(II)I"⟩
abbrev cX11_richest : ByteArray := prog_1_method_21_code
def yX11_richest : MethodName := ⟨RX11, "richest", "(I)I"⟩
abbrev cX11_until : ByteArray := prog_1_method_22_code
def yX11_until : MethodName := ⟨RX11, "until", "(I)I"⟩
abbrev cX11_mean : ByteArray := prog_1_method_23_code
def yX11_mean : MethodName := ⟨RX11, "mean", "()D"⟩
abbrev cX11_digest : ByteArray := prog_1_method_24_code
def yX11_digest : MethodName := ⟨RX11, "digest", "()J"⟩
abbrev cX11_append : ByteArray := prog_1_method_25_code
def yX11_append : MethodName := ⟨RX11, "append", "(I)V"⟩
abbrev cX11_isLot : ByteArray := prog_1_method_26_code
def yX11_isLot : MethodName := ⟨RX11, "isLot", "(I)Z"⟩
abbrev cX11_isMerchant : ByteArray := prog_1_method_27_code
def yX11_isMerchant : MethodName := ⟨RX11, "isMerchant", "(I)Z"⟩
abbrev cX11_counted : ByteArray := prog_1_method_28_code
def yX11_counted : MethodName := ⟨RX11, "counted", "(I)I"⟩
abbrev cX11_tellOrder : ByteArray := prog_1_method_29_code
def yX11_tellOrder : MethodName := ⟨RX11, "tellOrder", "(II)I"⟩
abbrev cX11_digestOfLots : ByteArray := prog_1_method_30_code
def yX11_digestOfLots : MethodName := ⟨RX11, "digestOfLots", "(J)J"⟩
abbrev cX11_digestOfMerchants : ByteArray := prog_1_method_31_code
def yX11_digestOfMerchants : MethodName := ⟨RX11, "digestOfMerchants", "(J)J"⟩
abbrev cX11_digestOfGuilds : ByteArray := prog_1_method_32_code
def yX11_digestOfGuilds : MethodName := ⟨RX11, "digestOfGuilds", "(J)J"⟩
abbrev cX11_digestOfOrders : ByteArray := prog_1_method_33_code
def yX11_digestOfOrders : MethodName := ⟨RX11, "digestOfOrders", "(J)J"⟩
def RX12 : String := "SpiceQuayModel$Sheet"
def TX12 : u_T := fun k => match k with
  | 0 => ("SpiceQuayModel$Sheet", "kind", "[I", true)
  | 1 => ("SpiceQuayModel$Sheet", "from", "[I", true)
  | 2 => ("SpiceQuayModel$Sheet", "many", "[I", true)
  | 3 => ("SpiceQuayModel$Sheet", "means", "[I", true)
  | 4 => ("SpiceQuayModel$Sheet", "spices", "I", false)
  | 5 => ("SpiceQuayModel$Sheet", "spiceName", "[I", true)
  | 6 => ("SpiceQuayModel$Sheet", "loss", "[I", true)
  | 7 => ("SpiceQuayModel$Sheet", "guilds", "I", false)
  | 8 => ("SpiceQuayModel$Sheet", "guildName", "[I", true)
  | 9 => ("SpiceQuayModel$Sheet", "fee", "[I", true)
  | 10 => ("SpiceQuayModel$Sheet", "bias", "[I", true)
  | 11 => ("SpiceQuayModel$Sheet", "merchants", "I", false)
  | 12 => ("SpiceQuayModel$Sheet", "merchantName", "[I", true)
  | 13 => ("SpiceQuayModel$Sheet", "coins", "[I", true)
  | 14 => ("SpiceQuayModel$Sheet", "credit", "[I", true)
  | 15 => ("SpiceQuayModel$Sheet", "lots", "I", false)
  | 16 => ("SpiceQuayModel$Sheet", "lotName", "[I", true)
  | 17 => ("SpiceQuayModel$Sheet", "spice", "[I", true)
  | 18 => ("SpiceQuayModel$Sheet", "sacks", "[I", true)
  | 19 => ("SpiceQuayModel$Sheet", "owner", "[I", true)
  | 20 => ("SpiceQuayModel$Sheet", "orders", "I", false)
  | 21 => ("SpiceQuayModel$Sheet", "sort", "[I", true)
  | 22 => ("SpiceQuayModel$Sheet", "one", "[I", true)
  | 23 => ("SpiceQuayModel$Sheet", "other", "[I", true)
  | 24 => ("SpiceQuayModel$Sheet", "sum", "[I", true)
  | _ => ("SpiceQuayModel$Sheet", "when", "[I", true)
def tyX12 : Nat → FieldType := fun k => match k with
  | 0 => .array .int
  | 1 => .array .int
  | 2 => .array .int
  | 3 => .array .int
  | 4 => .int
  | 5 => .array .int
  | 6 => .array .int
  | 7 => .int
  | 8 => .array .int
  | 9 => .array .int
  | 10 => .array .int
  | 11 => .int
  | 12 => .array .int
  | 13 => .array .int
  | 14 => .array .int
  | 15 => .int
  | 16 => .array .int
  | 17 => .array .int
  | 18 => .array .int
  | 19 => .array .int
  | 20 => .int
  | 21 => .array .int
  | 22 => .array .int
  | 23 => .array .int
  | 24 => .array .int
  | _ => .array .int
abbrev wsX120 : List Cond := u_ws RX12 TX12 26
theorem nmX12 : ∀ a, a < 26 → ∀ b, b < 26 → a ≠ b → (TX12 a).2.1 ≠ (TX12 b).2.1 := by decide +kernel
theorem tyX12_ok : ∀ k, k < 26 → parseFieldDescriptor (TX12 k).2.2.1 = some (tyX12 k) := by decide +kernel
abbrev cX12_init : ByteArray := prog_15_method_1_code
def yX12_init : MethodName := ⟨RX12, "<init>", "()V"⟩
def RX13 : String := "SpiceQuayModel$State"
def TX13 : u_T := fun k => match k with
  | 0 => ("SpiceQuayModel$State", "day", "I", false)
  | 1 => ("SpiceQuayModel$State", "damp", "I", false)
  | 2 => ("SpiceQuayModel$State", "sold", "I", false)
  | 3 => ("SpiceQuayModel$State", "weighed", "I", false)
  | 4 => ("SpiceQuayModel$State", "paid", "I", false)
  | 5 => ("SpiceQuayModel$State", "weight", "[I", true)
  | 6 => ("SpiceQuayModel$State", "owner", "[I", true)
  | 7 => ("SpiceQuayModel$State", "guild", "[I", true)
  | 8 => ("SpiceQuayModel$State", "chop", "[I", true)
  | 9 => ("SpiceQuayModel$State", "made", "[I", true)
  | 10 => ("SpiceQuayModel$State", "coins", "[I", true)
  | 11 => ("SpiceQuayModel$State", "owes", "[I", true)
  | 12 => ("SpiceQuayModel$State", "earned", "[I", true)
  | _ => ("SpiceQuayModel$State", "often", "[I", true)
def tyX13 : Nat → FieldType := fun k => match k with
  | 0 => .int
  | 1 => .int
  | 2 => .int
  | 3 => .int
  | 4 => .int
  | 5 => .array .int
  | 6 => .array .int
  | 7 => .array .int
  | 8 => .array .int
  | 9 => .array .int
  | 10 => .array .int
  | 11 => .array .int
  | 12 => .array .int
  | _ => .array .int
abbrev wsX130 : List Cond := u_ws RX13 TX13 14
theorem nmX13 : ∀ a, a < 14 → ∀ b, b < 14 → a ≠ b → (TX13 a).2.1 ≠ (TX13 b).2.1 := by decide +kernel
theorem tyX13_ok : ∀ k, k < 14 → parseFieldDescriptor (TX13 k).2.2.1 = some (tyX13 k) := by decide +kernel
abbrev cX13_init : ByteArray := prog_16_method_1_code
def yX13_init : MethodName := ⟨RX13, "<init>", "()V"⟩
abbrev cX13_copy : ByteArray := prog_16_method_2_code
def yX13_copy : MethodName := ⟨RX13, "copy", "([I[I)V"⟩
abbrev cX13_become : ByteArray := prog_16_method_3_code
def yX13_become : MethodName := ⟨RX13, "become", "(LSpiceQuayModel$State;)V"⟩
abbrev cX13_owes : ByteArray := prog_16_method_4_code
def yX13_owes : MethodName := ⟨RX13, "owes", "(II)I"⟩
abbrev cX13_debts : ByteArray := prog_16_method_5_code
def yX13_debts : MethodName := ⟨RX13, "debts", "(I)I"⟩
abbrev cX13_owed : ByteArray := prog_16_method_6_code
def yX13_owed : MethodName := ⟨RX13, "owed", "(I)I"⟩
abbrev cX13_age : ByteArray := prog_16_method_7_code
def yX13_age : MethodName := ⟨RX13, "age", "(I)I"⟩
abbrev cX13_isFresh : ByteArray := prog_16_method_8_code
def yX13_isFresh : MethodName := ⟨RX13, "isFresh", "(I)Z"⟩
def RX14 : String := "SpiceQuayModel"
def TX14 : u_T := fun k => match k with
  | 0 => ("SpiceQuayModel", "thrown", "I", false)
  | 1 => ("SpiceQuayModel", "tape", "[I", true)
  | 2 => ("SpiceQuayModel", "size", "I", false)
  | 3 => ("SpiceQuayModel", "errorAt", "I", false)
  | 4 => ("SpiceQuayModel", "token", "I", false)
  | 5 => ("SpiceQuayModel", "depth", "I", false)
  | 6 => ("SpiceQuayModel", "sheet", "LSpiceQuayModel$Sheet;", false)
  | 7 => ("SpiceQuayModel", "s", "LSpiceQuayModel$State;", true)
  | 8 => ("SpiceQuayModel", "ahead", "LSpiceQuayModel$State;", true)
  | 9 => ("SpiceQuayModel", "reach", "[I", true)
  | 10 => ("SpiceQuayModel", "walk", "I", false)
  | _ => ("SpiceQuayModel", "seen", "LSpiceQuayModel$State;", false)
def tyX14 : Nat → FieldType := fun k => match k with
  | 0 => .int
  | 1 => .array .int
  | 2 => .int
  | 3 => .int
  | 4 => .int
  | 5 => .int
  | 6 => .object "SpiceQuayModel$Sheet"
  | 7 => .object "SpiceQuayModel$State"
  | 8 => .object "SpiceQuayModel$State"
  | 9 => .array .int
  | 10 => .int
  | _ => .object "SpiceQuayModel$State"
abbrev wsX140 : List Cond := u_ws RX14 TX14 12
theorem nmX14 : ∀ a, a < 12 → ∀ b, b < 12 → a ≠ b → (TX14 a).2.1 ≠ (TX14 b).2.1 := by decide +kernel
theorem tyX14_ok : ∀ k, k < 12 → parseFieldDescriptor (TX14 k).2.2.1 = some (tyX14 k) := by decide +kernel
abbrev cX14_init : ByteArray := prog_14_method_1_code
def yX14_init : MethodName := ⟨RX14, "<init>", "()V"⟩
abbrev cX14_thrown : ByteArray := prog_14_method_2_code
def yX14_thrown : MethodName := ⟨RX14, "thrown", "()I"⟩
abbrev cX14_no : ByteArray := prog_14_method_3_code
def yX14_no : MethodName := ⟨RX14, "no", "(I)I"⟩
abbrev cX14_isIn : ByteArray := prog_14_method_4_code
def yX14_isIn : MethodName := ⟨RX14, "isIn", "(III)Z"⟩
abbrev cX14_isMerchant : ByteArray := prog_14_method_5_code
def yX14_isMerchant : MethodName := ⟨RX14, "isMerchant", "(I)Z"⟩
abbrev cX14_areMerchants : ByteArray := prog_14_method_6_code
def yX14_areMerchants : MethodName := ⟨RX14, "areMerchants", "(II)Z"⟩
abbrev cX14_isLot : ByteArray := prog_14_method_7_code
def yX14_isLot : MethodName := ⟨RX14, "isLot", "(I)Z"⟩
abbrev cX14_isLetter : ByteArray := prog_14_method_8_code
def yX14_isLetter : MethodName := ⟨RX14, "isLetter", "(I)Z"⟩
abbrev cX14_isDigit : ByteArray := prog_14_method_9_code
def yX14_isDigit : MethodName := ⟨RX14, "isDigit", "(I)Z"⟩
abbrev cX14_byteAt : ByteArray := prog_14_method_10_code
def yX14_byteAt : MethodName := ⟨RX14, "byteAt", "(I)I"⟩
abbrev cX14_lengthAt : ByteArray := prog_14_method_11_code
def yX14_lengthAt : MethodName := ⟨RX14, "lengthAt", "(I)I"⟩
abbrev cX14_kindAt : ByteArray := prog_14_method_12_code
def yX14_kindAt : MethodName := ⟨RX14, "kindAt", "(II)I"⟩
abbrev cX14_wordAt : ByteArray := prog_14_method_13_code
def yX14_wordAt : MethodName := ⟨RX14, "wordAt", "(II)I"⟩
abbrev cX14_cut : ByteArray := prog_14_method_14_code
def yX14_cut : MethodName := ⟨RX14, "cut", "(LSpiceQuayModel$Sheet;)V"⟩
abbrev cX14_eat : ByteArray := prog_14_method_15_code
def yX14_eat : MethodName := ⟨RX14, "eat", "(LSpiceQuayModel$Sheet;I)Z"⟩
abbrev cX14_eatIn : ByteArray := prog_14_method_16_code
def yX14_eatIn : MethodName := ⟨RX14, "eatIn", "(LSpiceQuayModel$Sheet;II)Z"⟩
abbrev cX14_goDown : ByteArray := prog_14_method_17_code
def yX14_goDown : MethodName := ⟨RX14, "goDown", "(LSpiceQuayModel$Sheet;I)Z"⟩
abbrev cX14_isList : ByteArray := prog_14_method_18_code
def yX14_isList : MethodName := ⟨RX14, "isList", "(LSpiceQuayModel$Sheet;)Z"⟩
abbrev cX14_isNumber : ByteArray := prog_14_method_19_code
def yX14_isNumber : MethodName := ⟨RX14, "isNumber", "(LSpiceQuayModel$Sheet;I)Z"⟩
abbrev cX14_isName : ByteArray := prog_14_method_20_code
def yX14_isName : MethodName := ⟨RX14, "isName", "(LSpiceQuayModel$Sheet;I)Z"⟩
abbrev cX14_mayTest : ByteArray := prog_14_method_21_code
def yX14_mayTest : MethodName := ⟨RX14, "mayTest", "(LSpiceQuayModel$Sheet;)Z"⟩
abbrev cX14_isLine : ByteArray := prog_14_method_22_code
def yX14_isLine : MethodName := ⟨RX14, "isLine", "(LSpiceQuayModel$Sheet;)Z"⟩
abbrev cX14_isTest : ByteArray := prog_14_method_23_code
def yX14_isTest : MethodName := ⟨RX14, "isTest", "(LSpiceQuayModel$Sheet;)Z"⟩
abbrev cX14_isBoth : ByteArray := prog_14_method_24_code
def yX14_isBoth : MethodName := ⟨RX14, "isBoth", "(LSpiceQuayModel$Sheet;)Z"⟩
abbrev cX14_isSingle : ByteArray := prog_14_method_25_code
def yX14_isSingle : MethodName := ⟨RX14, "isSingle", "(LSpiceQuayModel$Sheet;)Z"⟩
abbrev cX14_isSum : ByteArray := prog_14_method_26_code
def yX14_isSum : MethodName := ⟨RX14, "isSum", "(LSpiceQuayModel$Sheet;)Z"⟩
abbrev cX14_isProduct : ByteArray := prog_14_method_27_code
def yX14_isProduct : MethodName := ⟨RX14, "isProduct", "(LSpiceQuayModel$Sheet;)Z"⟩
abbrev cX14_isValue : ByteArray := prog_14_method_28_code
def yX14_isValue : MethodName := ⟨RX14, "isValue", "(LSpiceQuayModel$Sheet;)Z"⟩
abbrev cX14_number : ByteArray := prog_14_method_29_code
def yX14_number : MethodName := ⟨RX14, "number", "(LSpiceQuayModel$Sheet;I)I"⟩
abbrev cX14_areSame : ByteArray := prog_14_method_30_code
def yX14_areSame : MethodName := ⟨RX14, "areSame", "(LSpiceQuayModel$Sheet;II)Z"⟩
abbrev cX14_find : ByteArray := prog_14_method_31_code
def yX14_find : MethodName := ⟨RX14, "find", "(LSpiceQuayModel$Sheet;[III)I"⟩
abbrev cX14_namesOf : ByteArray := prog_14_method_32_code
def yX14_namesOf : MethodName := ⟨RX14, "namesOf", "(LSpiceQuayModel$Sheet;I)[I"⟩
abbrev cX14_manyOf : ByteArray := prog_14_method_33_code
def yX14_manyOf : MethodName := ⟨RX14, "manyOf", "(LSpiceQuayModel$Sheet;I)I"⟩
abbrev cX14_errorOfNew : ByteArray := prog_14_method_34_code
def yX14_errorOfNew : MethodName := ⟨RX14, "errorOfNew", "(LSpiceQuayModel$Sheet;II)I"⟩
abbrev cX14_sortOf : ByteArray := prog_14_method_35_code
def yX14_sortOf : MethodName := ⟨RX14, "sortOf", "(LSpiceQuayModel$Sheet;I)I"⟩
abbrev cX14_errorOfName : ByteArray := prog_14_method_36_code
def yX14_errorOfName : MethodName := ⟨RX14, "errorOfName", "(LSpiceQuayModel$Sheet;I)I"⟩
abbrev cX14_errorOfRange : ByteArray := prog_14_method_37_code
def yX14_errorOfRange : MethodName := ⟨RX14, "errorOfRange", "(III)I"⟩
abbrev cX14_errorOfNumber : ByteArray := prog_14_method_38_code
def yX14_errorOfNumber : MethodName := ⟨RX14, "errorOfNumber", "(LSpiceQuayModel$Sheet;I)I"⟩
abbrev cX14_errorOfOrder : ByteArray := prog_14_method_39_code
def yX14_errorOfOrder : MethodName := ⟨RX14, "errorOfOrder", "(LSpiceQuayModel$Sheet;I)I"⟩
abbrev cX14_errorOf : ByteArray := prog_14_method_40_code
def yX14_errorOf : MethodName := ⟨RX14, "errorOf", "(LSpiceQuayModel$Sheet;I)I"⟩
abbrev cX14_read : ByteArray := prog_14_method_41_code
def yX14_read : MethodName := ⟨RX14, "read", "(LSpiceQuayModel$Sheet;)I"⟩
abbrev cX14_goesBy : ByteArray := prog_14_method_42_code
def yX14_goesBy : MethodName := ⟨RX14, "goesBy", "(I)Z"⟩
abbrev cX14_test : ByteArray := prog_14_method_43_code
def yX14_test : MethodName := ⟨RX14, "test", "()Z"⟩
abbrev cX14_both : ByteArray := prog_14_method_44_code
def yX14_both : MethodName := ⟨RX14, "both", "()Z"⟩
abbrev cX14_single : ByteArray := prog_14_method_45_code
def yX14_single : MethodName := ⟨RX14, "single", "()Z"⟩
abbrev cX14_sum : ByteArray := prog_14_method_46_code
def yX14_sum : MethodName := ⟨RX14, "sum", "()I"⟩
abbrev cX14_product : ByteArray := prog_14_method_47_code
def yX14_product : MethodName := ⟨RX14, "product", "()I"⟩
abbrev cX14_ofOne : ByteArray := prog_14_method_48_code
def yX14_ofOne : MethodName := ⟨RX14, "ofOne", "(II)I"⟩
abbrev cX14_value : ByteArray := prog_14_method_49_code
def yX14_value : MethodName := ⟨RX14, "value", "()I"⟩
abbrev cX14_holds : ByteArray := prog_14_method_50_code
def yX14_holds : MethodName := ⟨RX14, "holds", "(LSpiceQuayModel$State;I)Z"⟩
abbrev cX14_sumOf : ByteArray := prog_14_method_51_code
def yX14_sumOf : MethodName := ⟨RX14, "sumOf", "(LSpiceQuayModel$State;I)I"⟩
abbrev cX14_priceOf : ByteArray := prog_14_method_52_code
def yX14_priceOf : MethodName := ⟨RX14, "priceOf", "(LSpiceQuayModel$State;I)I"⟩
abbrev cX14_payOf : ByteArray := prog_14_method_53_code
def yX14_payOf : MethodName := ⟨RX14, "payOf", "(LSpiceQuayModel$State;I)I"⟩
abbrev cX14_canSell : ByteArray := prog_14_method_54_code
def yX14_canSell : MethodName := ⟨RX14, "canSell", "(LSpiceQuayModel$State;I)Z"⟩
abbrev cX14_can : ByteArray := prog_14_method_55_code
def yX14_can : MethodName := ⟨RX14, "can", "(LSpiceQuayModel$State;I)Z"⟩
abbrev cX14_weigh : ByteArray := prog_14_method_56_code
def yX14_weigh : MethodName := ⟨RX14, "weigh", "(LSpiceQuayModel$State;II)V"⟩
abbrev cX14_sell : ByteArray := prog_14_method_57_code
def yX14_sell : MethodName := ⟨RX14, "sell", "(LSpiceQuayModel$State;III)V"⟩
abbrev cX14_pay : ByteArray := prog_14_method_58_code
def yX14_pay : MethodName := ⟨RX14, "pay", "(LSpiceQuayModel$State;III)V"⟩
abbrev cX14_carry : ByteArray := prog_14_method_59_code
def yX14_carry : MethodName := ⟨RX14, "carry", "(LSpiceQuayModel$State;I)Z"⟩
abbrev cX14_lossOf : ByteArray := prog_14_method_60_code
def yX14_lossOf : MethodName := ⟨RX14, "lossOf", "(LSpiceQuayModel$State;I)I"⟩
abbrev cX14_lose : ByteArray := prog_14_method_61_code
def yX14_lose : MethodName := ⟨RX14, "lose", "(LSpiceQuayModel$State;)V"⟩
abbrev cX14_dayOn : ByteArray := prog_14_method_62_code
def yX14_dayOn : MethodName := ⟨RX14, "dayOn", "(LSpiceQuayModel$State;)I"⟩
abbrev cX14_daysOn : ByteArray := prog_14_method_63_code
def yX14_daysOn : MethodName := ⟨RX14, "daysOn", "(LSpiceQuayModel$State;I)I"⟩
abbrev cX14_weightOf : ByteArray := prog_14_method_64_code
def yX14_weightOf : MethodName := ⟨RX14, "weightOf", "(LSpiceQuayModel$State;)I"⟩
abbrev cX14_sumOf_ : ByteArray := prog_14_method_65_code
def yX14_sumOf_ : MethodName := ⟨RX14, "sumOf", "([I)I"⟩
abbrev cX14_counted : ByteArray := prog_14_method_66_code
def yX14_counted : MethodName := ⟨RX14, "counted", "(LSpiceQuayModel$State;I)I"⟩
abbrev cX14_feed : ByteArray := prog_14_method_67_code
def yX14_feed : MethodName := ⟨RX14, "feed", "(IIIII)I"⟩
abbrev cX14_trim : ByteArray := prog_14_method_68_code
def yX14_trim : MethodName := ⟨RX14, "trim", "(I)I"⟩
abbrev cX14_fill : ByteArray := prog_14_method_69_code
def yX14_fill : MethodName := ⟨RX14, "fill", "([II)V"⟩
abbrev cX14_teach : ByteArray := prog_14_method_70_code
def yX14_teach : MethodName := ⟨RX14, "teach", "()I"⟩
abbrev cX14_errorAt : ByteArray := prog_14_method_71_code
def yX14_errorAt : MethodName := ⟨RX14, "errorAt", "()I"⟩
abbrev cX14_count : ByteArray := prog_14_method_72_code
def yX14_count : MethodName := ⟨RX14, "count", "(I)I"⟩
abbrev cX14_lotTold : ByteArray := prog_14_method_73_code
def yX14_lotTold : MethodName := ⟨RX14, "lotTold", "(II)I"⟩
abbrev cX14_lot : ByteArray := prog_14_method_74_code
def yX14_lot : MethodName := ⟨RX14, "lot", "(II)I"⟩
abbrev cX14_lotsOf : ByteArray := prog_14_method_75_code
def yX14_lotsOf : MethodName := ⟨RX14, "lotsOf", "(IZ)I"⟩
abbrev cX14_merchantTold : ByteArray := prog_14_method_76_code
def yX14_merchantTold : MethodName := ⟨RX14, "merchantTold", "(II)I"⟩
abbrev cX14_merchant : ByteArray := prog_14_method_77_code
def yX14_merchant : MethodName := ⟨RX14, "merchant", "(II)I"⟩
abbrev cX14_guildTold : ByteArray := prog_14_method_78_code
def yX14_guildTold : MethodName := ⟨RX14, "guildTold", "(II)I"⟩
abbrev cX14_guild : ByteArray := prog_14_method_79_code
def yX14_guild : MethodName := ⟨RX14, "guild", "(II)I"⟩
abbrev cX14_orderTold : ByteArray := prog_14_method_80_code
def yX14_orderTold : MethodName := ⟨RX14, "orderTold", "(II)I"⟩
abbrev cX14_order : ByteArray := prog_14_method_81_code
def yX14_order : MethodName := ⟨RX14, "order", "(II)I"⟩
abbrev cX14_owes : ByteArray := prog_14_method_82_code
def yX14_owes : MethodName := ⟨RX14, "owes", "(II)I"⟩
abbrev cX14_chain : ByteArray := prog_14_method_83_code
def yX14_chain : MethodName := ⟨RX14, "chain", "(II)I"⟩
abbrev cX14_ring : ByteArray := prog_14_method_84_code
def yX14_ring : MethodName := ⟨RX14, "ring", "(I)I"⟩
abbrev cX14_setDamp : ByteArray := prog_14_method_85_code
def yX14_setDamp : MethodName := ⟨RX14, "setDamp", "(I)I"⟩
abbrev cX14_lend : ByteArray := prog_14_method_86_code
def yX14_lend : MethodName := ⟨RX14, "lend", "(III)I"⟩
abbrev cX14_offset : ByteArray := prog_14_method_87_code
def yX14_offset : MethodName := ⟨RX14, "offset", "(II)I"⟩
abbrev cX14_dry : ByteArray := prog_14_method_88_code
def yX14_dry : MethodName := ⟨RX14, "dry", "(I)I"⟩
abbrev cX14_pass : ByteArray := prog_14_method_89_code
def yX14_pass : MethodName := ⟨RX14, "pass", "(I)I"⟩
abbrev cX14_foresee : ByteArray := prog_14_method_90_code
def yX14_foresee : MethodName := ⟨RX14, "foresee", "(II)I"⟩
abbrev cX14_costs : ByteArray := prog_14_method_91_code
def yX14_costs : MethodName := ⟨RX14, "costs", "(II)I"⟩
abbrev cX14_wealth : ByteArray := prog_14_method_92_code
def yX14_wealth : MethodName := ⟨RX14, "wealth", "(LSpiceQuayModel$State;I)I"⟩
abbrev cX14_richest : ByteArray := prog_14_method_93_code
def yX14_richest : MethodName := ⟨RX14, "richest", "(I)I"⟩
abbrev cX14_until : ByteArray := prog_14_method_94_code
def yX14_until : MethodName := ⟨RX14, "until", "(I)I"⟩
abbrev cX14_mean : ByteArray := prog_14_method_95_code
def yX14_mean : MethodName := ⟨RX14, "mean", "()D"⟩
abbrev cX14_digest : ByteArray := prog_14_method_96_code
def yX14_digest : MethodName := ⟨RX14, "digest", "()J"⟩
def RJ11 : String := "java/lang/Character"
def TJ11 : u_T := fun k => match k with
  | _ => ("", "", "", false)
def tyJ11 : Nat → FieldType := fun k => match k with
  | _ => .int
abbrev wsJ110 : List Cond := u_ws RJ11 TJ11 0
theorem nmJ11 : ∀ a, a < 0 → ∀ b, b < 0 → a ≠ b → (TJ11 a).2.1 ≠ (TJ11 b).2.1 := by decide +kernel
theorem tyJ11_ok : ∀ k, k < 0 → parseFieldDescriptor (TJ11 k).2.2.1 = some (tyJ11 k) := by decide +kernel
abbrev cJ11_isValidCodePoint_9a6ad : ByteArray := prog_17_method_11_code
def yJ11_isValidCodePoint_9a6ad : MethodName := ⟨RJ11, "isValidCodePoint", "(I)Z"⟩
abbrev cJ11_highSurrogate_5068e : ByteArray := prog_17_method_28_code
def yJ11_highSurrogate_5068e : MethodName := ⟨RJ11, "highSurrogate", "(I)C"⟩
abbrev cJ11_lowSurrogate_5068e : ByteArray := prog_17_method_29_code
def yJ11_lowSurrogate_5068e : MethodName := ⟨RJ11, "lowSurrogate", "(I)C"⟩
def RJ9 : String := "java/lang/Math"
def TJ9 : u_T := fun k => match k with
  | _ => ("", "", "", false)
def tyJ9 : Nat → FieldType := fun k => match k with
  | _ => .int
abbrev wsJ90 : List Cond := u_ws RJ9 TJ9 0
theorem nmJ9 : ∀ a, a < 0 → ∀ b, b < 0 → a ≠ b → (TJ9 a).2.1 ≠ (TJ9 b).2.1 := by decide +kernel
theorem tyJ9_ok : ∀ k, k < 0 → parseFieldDescriptor (TJ9 k).2.2.1 = some (tyJ9 k) := by decide +kernel
abbrev cJ9_max_7cf53 : ByteArray := prog_22_method_65_code
def yJ9_max_7cf53 : MethodName := ⟨RJ9, "max", "(II)I"⟩
abbrev cJ9_min_7cf53 : ByteArray := prog_22_method_69_code
def yJ9_min_7cf53 : MethodName := ⟨RJ9, "min", "(II)I"⟩
def RJ0 : String := "java/lang/String"
def TJ0 : u_T := fun k => match k with
  | _ => ("", "", "", false)
def tyJ0 : Nat → FieldType := fun k => match k with
  | _ => .int
abbrev wsJ00 : List Cond := u_ws RJ0 TJ0 0
theorem nmJ0 : ∀ a, a < 0 → ∀ b, b < 0 → a ≠ b → (TJ0 a).2.1 ≠ (TJ0 b).2.1 := by decide +kernel
theorem tyJ0_ok : ∀ k, k < 0 → parseFieldDescriptor (TJ0 k).2.2.1 = some (tyJ0 k) := by decide +kernel
abbrev cJ0_length_8abf5 : ByteArray := prog_24_method_54_code
def yJ0_length_8abf5 : MethodName := ⟨RJ0, "length", "()I"⟩
abbrev cJ0_charAt_5068e : ByteArray := prog_24_method_56_code
def yJ0_charAt_5068e : MethodName := ⟨RJ0, "charAt", "(I)C"⟩
abbrev cJ0_indexOf_0f7a4 : ByteArray := prog_24_method_79_code
def yJ0_indexOf_0f7a4 : MethodName := ⟨RJ0, "indexOf", "(I)I"⟩
abbrev cJ0_indexOf_7cf53 : ByteArray := prog_24_method_80_code
def yJ0_indexOf_7cf53 : MethodName := ⟨RJ0, "indexOf", "(II)I"⟩
abbrev cJ0_coder_7d493 : ByteArray := prog_24_method_152_code
def yJ0_coder_7d493 : MethodName := ⟨RJ0, "coder", "()B"⟩
abbrev cJ0_isLatin1_aae02 : ByteArray := prog_24_method_154_code
def yJ0_isLatin1_aae02 : MethodName := ⟨RJ0, "isLatin1", "()Z"⟩
abbrev cJ0_checkIndex_df160 : ByteArray := prog_24_method_155_code
def yJ0_checkIndex_df160 : MethodName := ⟨RJ0, "checkIndex", "(II)V"⟩
abbrev cJ0_checkBoundsBeginEnd_23922 : ByteArray := prog_24_method_158_code
def yJ0_checkBoundsBeginEnd_23922 : MethodName := ⟨RJ0, "checkBoundsBeginEnd", "(III)V"⟩
def RJ1 : String := "java/lang/StringLatin1"
def TJ1 : u_T := fun k => match k with
  | _ => ("", "", "", false)
def tyJ1 : Nat → FieldType := fun k => match k with
  | _ => .int
abbrev wsJ10 : List Cond := u_ws RJ1 TJ1 0
theorem nmJ1 : ∀ a, a < 0 → ∀ b, b < 0 → a ≠ b → (TJ1 a).2.1 ≠ (TJ1 b).2.1 := by decide +kernel
theorem tyJ1_ok : ∀ k, k < 0 → parseFieldDescriptor (TJ1 k).2.2.1 = some (tyJ1 k) := by decide +kernel
abbrev cJ1_charAt_3b067 : ByteArray := prog_25_method_2_code
def yJ1_charAt_3b067 : MethodName := ⟨RJ1, "charAt", "([BI)C"⟩
abbrev cJ1_canEncode_9a6ad : ByteArray := prog_25_method_4_code
def yJ1_canEncode_9a6ad : MethodName := ⟨RJ1, "canEncode", "(I)Z"⟩
abbrev cJ1_indexOf_4cfef : ByteArray := prog_25_method_22_code
def yJ1_indexOf_4cfef : MethodName := ⟨RJ1, "indexOf", "([BIII)I"⟩
abbrev cJ1_indexOfChar_4cfef : ByteArray := prog_25_method_23_code
def yJ1_indexOfChar_4cfef : MethodName := ⟨RJ1, "indexOfChar", "([BIII)I"⟩
def RJ2 : String := "java/lang/StringUTF16"
def TJ2 : u_T := fun k => match k with
  | _ => ("", "", "", false)
def tyJ2 : Nat → FieldType := fun k => match k with
  | _ => .int
abbrev wsJ20 : List Cond := u_ws RJ2 TJ2 0
theorem nmJ2 : ∀ a, a < 0 → ∀ b, b < 0 → a ≠ b → (TJ2 a).2.1 ≠ (TJ2 b).2.1 := by decide +kernel
theorem tyJ2_ok : ∀ k, k < 0 → parseFieldDescriptor (TJ2 k).2.2.1 = some (tyJ2 k) := by decide +kernel
abbrev cJ2_getChar_3b067 : ByteArray := prog_26_method_5_code
def yJ2_getChar_3b067 : MethodName := ⟨RJ2, "getChar", "([BI)C"⟩
abbrev cJ2_length_9d52b : ByteArray := prog_26_method_6_code
def yJ2_length_9d52b : MethodName := ⟨RJ2, "length", "([B)I"⟩
abbrev cJ2_indexOf_4cfef : ByteArray := prog_26_method_40_code
def yJ2_indexOf_4cfef : MethodName := ⟨RJ2, "indexOf", "([BIII)I"⟩
abbrev cJ2_indexOfChar_4cfef : ByteArray := prog_26_method_47_code
def yJ2_indexOfChar_4cfef : MethodName := ⟨RJ2, "indexOfChar", "([BIII)I"⟩
abbrev cJ2_indexOfCharUnsafe_4cfef : ByteArray := prog_26_method_48_code
def yJ2_indexOfCharUnsafe_4cfef : MethodName := ⟨RJ2, "indexOfCharUnsafe", "([BIII)I"⟩
abbrev cJ2_indexOfSupplementary_4cfef : ByteArray := prog_26_method_49_code
def yJ2_indexOfSupplementary_4cfef : MethodName := ⟨RJ2, "indexOfSupplementary", "([BIII)I"⟩
abbrev cJ2_charAt_3b067 : ByteArray := prog_26_method_83_code
def yJ2_charAt_3b067 : MethodName := ⟨RJ2, "charAt", "([BI)C"⟩
abbrev cJ2_checkIndex_2214a : ByteArray := prog_26_method_91_code
def yJ2_checkIndex_2214a : MethodName := ⟨RJ2, "checkIndex", "(I[B)V"⟩
abbrev cJ2_checkBoundsBeginEnd_d044e : ByteArray := prog_26_method_93_code
def yJ2_checkBoundsBeginEnd_d044e : MethodName := ⟨RJ2, "checkBoundsBeginEnd", "(II[B)V"⟩
def RJ10 : String := "java/lang/System"
def TJ10 : u_T := fun k => match k with
  | _ => ("", "", "", false)
def tyJ10 : Nat → FieldType := fun k => match k with
  | _ => .int
abbrev wsJ100 : List Cond := u_ws RJ10 TJ10 0
theorem nmJ10 : ∀ a, a < 0 → ∀ b, b < 0 → a ≠ b → (TJ10 a).2.1 ≠ (TJ10 b).2.1 := by decide +kernel
theorem tyJ10_ok : ∀ k, k < 0 → parseFieldDescriptor (TJ10 k).2.2.1 = some (tyJ10 k) := by decide +kernel
def RJ3 : String := "jdk/internal/util/Preconditions"
def TJ3 : u_T := fun k => match k with
  | _ => ("", "", "", false)
def tyJ3 : Nat → FieldType := fun k => match k with
  | _ => .int
abbrev wsJ30 : List Cond := u_ws RJ3 TJ3 0
theorem nmJ3 : ∀ a, a < 0 → ∀ b, b < 0 → a ≠ b → (TJ3 a).2.1 ≠ (TJ3 b).2.1 := by decide +kernel
theorem tyJ3_ok : ∀ k, k < 0 → parseFieldDescriptor (TJ3 k).2.2.1 = some (tyJ3 k) := by decide +kernel
abbrev cJ3_checkIndex_8e157 : ByteArray := prog_29_method_11_code
def yJ3_checkIndex_8e157 : MethodName := ⟨RJ3, "checkIndex", "(IILjava/util/function/BiFunction;)I"⟩
abbrev cJ3_checkFromToIndex_8c36e : ByteArray := prog_29_method_12_code
def yJ3_checkFromToIndex_8c36e : MethodName := ⟨RJ3, "checkFromToIndex", "(IIILjava/util/function/BiFunction;)I"⟩
def RL : String := "SpiceQuayLaw"
abbrev cL_feed : ByteArray := method_3_code
def yL_feed : MethodName := ⟨RL, "feed", "(LSpiceQuay;IIIII[J)I"⟩
abbrev cL_trim : ByteArray := method_4_code
def yL_trim : MethodName := ⟨RL, "trim", "(LSpiceQuay;I[J)I"⟩
abbrev cL_count : ByteArray := method_5_code
def yL_count : MethodName := ⟨RL, "count", "(LSpiceQuay;I[J)I"⟩
abbrev cL_lot : ByteArray := method_6_code
def yL_lot : MethodName := ⟨RL, "lot", "(LSpiceQuay;II[J)I"⟩
abbrev cL_merchant : ByteArray := method_7_code
def yL_merchant : MethodName := ⟨RL, "merchant", "(LSpiceQuay;II[J)I"⟩
abbrev cL_guild : ByteArray := method_8_code
def yL_guild : MethodName := ⟨RL, "guild", "(LSpiceQuay;II[J)I"⟩
abbrev cL_order : ByteArray := method_9_code
def yL_order : MethodName := ⟨RL, "order", "(LSpiceQuay;II[J)I"⟩
abbrev cL_owes : ByteArray := method_10_code
def yL_owes : MethodName := ⟨RL, "owes", "(LSpiceQuay;II[J)I"⟩
abbrev cL_chain : ByteArray := method_11_code
def yL_chain : MethodName := ⟨RL, "chain", "(LSpiceQuay;II[J)I"⟩
abbrev cL_ring : ByteArray := method_12_code
def yL_ring : MethodName := ⟨RL, "ring", "(LSpiceQuay;I[J)I"⟩
abbrev cL_setDamp : ByteArray := method_13_code
def yL_setDamp : MethodName := ⟨RL, "setDamp", "(LSpiceQuay;I[J)I"⟩
abbrev cL_lend : ByteArray := method_14_code
def yL_lend : MethodName := ⟨RL, "lend", "(LSpiceQuay;III[J)I"⟩
abbrev cL_offset : ByteArray := method_15_code
def yL_offset : MethodName := ⟨RL, "offset", "(LSpiceQuay;II[J)I"⟩
abbrev cL_dry : ByteArray := method_16_code
def yL_dry : MethodName := ⟨RL, "dry", "(LSpiceQuay;I[J)I"⟩
abbrev cL_pass : ByteArray := method_17_code
def yL_pass : MethodName := ⟨RL, "pass", "(LSpiceQuay;I[J)I"⟩
abbrev cL_foresee : ByteArray := method_18_code
def yL_foresee : MethodName := ⟨RL, "foresee", "(LSpiceQuay;II[J)I"⟩
abbrev cL_costs : ByteArray := method_19_code
def yL_costs : MethodName := ⟨RL, "costs", "(LSpiceQuay;II[J)I"⟩
abbrev cL_richest : ByteArray := method_20_code
def yL_richest : MethodName := ⟨RL, "richest", "(LSpiceQuay;I[J)I"⟩
abbrev cL_until : ByteArray := method_21_code
def yL_until : MethodName := ⟨RL, "until", "(LSpiceQuay;I[J)I"⟩
abbrev cL_law : ByteArray := code
def yL_law : MethodName := ⟨RL, "law", "([I)Z"⟩
abbrev vwCl : List vw_C := [(RX0, TX0, 3), (RX1, TX1, 2), (RX3, TX3, 3), (RX4, TX4, 20), (RX5, TX5, 9), (RX6, TX6, 4), (RX7, TX7, 1), (RX8, TX8, 15), (RX9, TX9, 4), (RX10, TX10, 7), (RX11, TX11, 10), (RX12, TX12, 26), (RX13, TX13, 14), (RX14, TX14, 12)]
