-- ===== PART A: goes FIRST, ahead of the names: the tables' words, and 'selects' of the private methods out of them =====
/-- a private method of a class that the tables say can be made, by its rows of tables_1 -/
def lw_okq (q : MethodName × Nat) : Prop := (q.1.cls ≠ "java/lang/invoke/MethodHandle" ∧ q.1.cls ≠ "java/lang/invoke/VarHandle") ∧ Cond.instantiable q.1.cls q.2 ∈ tables_1 ∧ Cond.privateMethod q.1 ∈ tables_1 ∧ Cond.instanceMethod q.1 ∈ tables_1
theorem lw_p0 : lw_okq (⟨"ClothPlay", "refuse", "(I)I"⟩, 16) := ⟨⟨by decide +kernel, by decide +kernel⟩, List.mem_of_getElem? (i := 24) (by decide +kernel), List.mem_of_getElem? (i := 450) (by decide +kernel), List.mem_of_getElem? (i := 451) (by decide +kernel)⟩
theorem lw_p1 : lw_okq (⟨"ClothPlay", "changeHands", "()V"⟩, 16) := ⟨⟨by decide +kernel, by decide +kernel⟩, List.mem_of_getElem? (i := 24) (by decide +kernel), List.mem_of_getElem? (i := 454) (by decide +kernel), List.mem_of_getElem? (i := 455) (by decide +kernel)⟩
theorem lw_p2 : lw_okq (⟨"ClothPlay", "accept", "(I)I"⟩, 16) := ⟨⟨by decide +kernel, by decide +kernel⟩, List.mem_of_getElem? (i := 24) (by decide +kernel), List.mem_of_getElem? (i := 462) (by decide +kernel), List.mem_of_getElem? (i := 463) (by decide +kernel)⟩
theorem lw_p3 : lw_okq (⟨"ClothPlay", "changeCast", "()V"⟩, 16) := ⟨⟨by decide +kernel, by decide +kernel⟩, List.mem_of_getElem? (i := 24) (by decide +kernel), List.mem_of_getElem? (i := 482) (by decide +kernel), List.mem_of_getElem? (i := 483) (by decide +kernel)⟩
theorem lw_p4 : lw_okq (⟨"ClothPlay", "writeWord", "(I)V"⟩, 16) := ⟨⟨by decide +kernel, by decide +kernel⟩, List.mem_of_getElem? (i := 24) (by decide +kernel), List.mem_of_getElem? (i := 526) (by decide +kernel), List.mem_of_getElem? (i := 527) (by decide +kernel)⟩
theorem lw_p5 : lw_okq (⟨"ClothPlay", "takeSheet", "()I"⟩, 16) := ⟨⟨by decide +kernel, by decide +kernel⟩, List.mem_of_getElem? (i := 24) (by decide +kernel), List.mem_of_getElem? (i := 538) (by decide +kernel), List.mem_of_getElem? (i := 539) (by decide +kernel)⟩
theorem lw_p6 : lw_okq (⟨"ClothPlay", "takeOutline", "(I)I"⟩, 16) := ⟨⟨by decide +kernel, by decide +kernel⟩, List.mem_of_getElem? (i := 24) (by decide +kernel), List.mem_of_getElem? (i := 553) (by decide +kernel), List.mem_of_getElem? (i := 554) (by decide +kernel)⟩
theorem lw_p7 : lw_okq (⟨"ClothPlay$Reader", "advance", "()V"⟩, 11) := ⟨⟨by decide +kernel, by decide +kernel⟩, List.mem_of_getElem? (i := 141) (by decide +kernel), List.mem_of_getElem? (i := 586) (by decide +kernel), List.mem_of_getElem? (i := 587) (by decide +kernel)⟩
theorem lw_p8 : lw_okq (⟨"ClothPlay$Reader", "wordBetween", "(II)I"⟩, 11) := ⟨⟨by decide +kernel, by decide +kernel⟩, List.mem_of_getElem? (i := 141) (by decide +kernel), List.mem_of_getElem? (i := 591) (by decide +kernel), List.mem_of_getElem? (i := 592) (by decide +kernel)⟩
theorem lw_p9 : lw_okq (⟨"ClothPlay$Reader", "readClause", "()Z"⟩, 11) := ⟨⟨by decide +kernel, by decide +kernel⟩, List.mem_of_getElem? (i := 141) (by decide +kernel), List.mem_of_getElem? (i := 644) (by decide +kernel), List.mem_of_getElem? (i := 645) (by decide +kernel)⟩
theorem lw_p10 : lw_okq (⟨"ClothPlay$Reader", "readMove", "()Z"⟩, 11) := ⟨⟨by decide +kernel, by decide +kernel⟩, List.mem_of_getElem? (i := 141) (by decide +kernel), List.mem_of_getElem? (i := 648) (by decide +kernel), List.mem_of_getElem? (i := 649) (by decide +kernel)⟩
theorem lw_p11 : lw_okq (⟨"ClothPlay$Reader", "fail", "()Z"⟩, 11) := ⟨⟨by decide +kernel, by decide +kernel⟩, List.mem_of_getElem? (i := 141) (by decide +kernel), List.mem_of_getElem? (i := 652) (by decide +kernel), List.mem_of_getElem? (i := 653) (by decide +kernel)⟩
theorem lw_p12 : lw_okq (⟨"ClothPlay$Reader", "takeNumber", "(III)Z"⟩, 11) := ⟨⟨by decide +kernel, by decide +kernel⟩, List.mem_of_getElem? (i := 141) (by decide +kernel), List.mem_of_getElem? (i := 656) (by decide +kernel), List.mem_of_getElem? (i := 657) (by decide +kernel)⟩
theorem lw_p13 : lw_okq (⟨"ClothPlay$Reader", "take", "(I)Z"⟩, 11) := ⟨⟨by decide +kernel, by decide +kernel⟩, List.mem_of_getElem? (i := 141) (by decide +kernel), List.mem_of_getElem? (i := 666) (by decide +kernel), List.mem_of_getElem? (i := 667) (by decide +kernel)⟩
theorem lw_p14 : lw_okq (⟨"ClothPlay$Reader", "readLevel", "(II)Z"⟩, 11) := ⟨⟨by decide +kernel, by decide +kernel⟩, List.mem_of_getElem? (i := 141) (by decide +kernel), List.mem_of_getElem? (i := 675) (by decide +kernel), List.mem_of_getElem? (i := 676) (by decide +kernel)⟩
theorem lw_p15 : lw_okq (⟨"ClothPlay$Reader", "readPlain", "(I)Z"⟩, 11) := ⟨⟨by decide +kernel, by decide +kernel⟩, List.mem_of_getElem? (i := 141) (by decide +kernel), List.mem_of_getElem? (i := 679) (by decide +kernel), List.mem_of_getElem? (i := 680) (by decide +kernel)⟩
def lw_privs_1 : List (MethodName × Nat) := [(⟨"ClothPlay", "refuse", "(I)I"⟩, 16), (⟨"ClothPlay", "changeHands", "()V"⟩, 16), (⟨"ClothPlay", "accept", "(I)I"⟩, 16), (⟨"ClothPlay", "changeCast", "()V"⟩, 16), (⟨"ClothPlay", "writeWord", "(I)V"⟩, 16), (⟨"ClothPlay", "takeSheet", "()I"⟩, 16), (⟨"ClothPlay", "takeOutline", "(I)I"⟩, 16), (⟨"ClothPlay$Reader", "advance", "()V"⟩, 11), (⟨"ClothPlay$Reader", "wordBetween", "(II)I"⟩, 11), (⟨"ClothPlay$Reader", "readClause", "()Z"⟩, 11), (⟨"ClothPlay$Reader", "readMove", "()Z"⟩, 11), (⟨"ClothPlay$Reader", "fail", "()Z"⟩, 11), (⟨"ClothPlay$Reader", "takeNumber", "(III)Z"⟩, 11), (⟨"ClothPlay$Reader", "take", "(I)Z"⟩, 11), (⟨"ClothPlay$Reader", "readLevel", "(II)Z"⟩, 11), (⟨"ClothPlay$Reader", "readPlain", "(I)Z"⟩, 11)]
theorem lw_r1 : ∀ q ∈ lw_privs_1, lw_okq q := List.forall_mem_cons.mpr ⟨lw_p0, List.forall_mem_cons.mpr ⟨lw_p1, List.forall_mem_cons.mpr ⟨lw_p2, List.forall_mem_cons.mpr ⟨lw_p3, List.forall_mem_cons.mpr ⟨lw_p4, List.forall_mem_cons.mpr ⟨lw_p5, List.forall_mem_cons.mpr ⟨lw_p6, List.forall_mem_cons.mpr ⟨lw_p7, List.forall_mem_cons.mpr ⟨lw_p8, List.forall_mem_cons.mpr ⟨lw_p9, List.forall_mem_cons.mpr ⟨lw_p10, List.forall_mem_cons.mpr ⟨lw_p11, List.forall_mem_cons.mpr ⟨lw_p12, List.forall_mem_cons.mpr ⟨lw_p13, List.forall_mem_cons.mpr ⟨lw_p14, List.forall_mem_cons.mpr ⟨lw_p15, fun _ h => absurd h List.not_mem_nil⟩⟩⟩⟩⟩⟩⟩⟩⟩⟩⟩⟩⟩⟩⟩⟩
theorem lw_p16 : lw_okq (⟨"ClothPlay$Reader", "readWithin", "(III)Z"⟩, 11) := ⟨⟨by decide +kernel, by decide +kernel⟩, List.mem_of_getElem? (i := 141) (by decide +kernel), List.mem_of_getElem? (i := 683) (by decide +kernel), List.mem_of_getElem? (i := 684) (by decide +kernel)⟩
theorem lw_p17 : lw_okq (⟨"ClothPlay$Reader", "readComparison", "(I)Z"⟩, 11) := ⟨⟨by decide +kernel, by decide +kernel⟩, List.mem_of_getElem? (i := 141) (by decide +kernel), List.mem_of_getElem? (i := 687) (by decide +kernel), List.mem_of_getElem? (i := 688) (by decide +kernel)⟩
theorem lw_p18 : lw_okq (⟨"ClothPlay$Reader", "operationAt", "(I)I"⟩, 11) := ⟨⟨by decide +kernel, by decide +kernel⟩, List.mem_of_getElem? (i := 141) (by decide +kernel), List.mem_of_getElem? (i := 691) (by decide +kernel), List.mem_of_getElem? (i := 692) (by decide +kernel)⟩
theorem lw_p19 : lw_okq (⟨"ClothPlay$Reader", "readPart", "(I)Z"⟩, 11) := ⟨⟨by decide +kernel, by decide +kernel⟩, List.mem_of_getElem? (i := 141) (by decide +kernel), List.mem_of_getElem? (i := 699) (by decide +kernel), List.mem_of_getElem? (i := 700) (by decide +kernel)⟩
theorem lw_p20 : lw_okq (⟨"ClothPlay$Hands", "farFrom", "(II)I"⟩, 8) := ⟨⟨by decide +kernel, by decide +kernel⟩, List.mem_of_getElem? (i := 215) (by decide +kernel), List.mem_of_getElem? (i := 786) (by decide +kernel), List.mem_of_getElem? (i := 787) (by decide +kernel)⟩
theorem lw_p21 : lw_okq (⟨"ClothPlay$Hands", "allowedFor", "(II)I"⟩, 8) := ⟨⟨by decide +kernel, by decide +kernel⟩, List.mem_of_getElem? (i := 215) (by decide +kernel), List.mem_of_getElem? (i := 795) (by decide +kernel), List.mem_of_getElem? (i := 796) (by decide +kernel)⟩
theorem lw_p22 : lw_okq (⟨"ClothPlay$Asker", "valueOf", "(II)J"⟩, 4) := ⟨⟨by decide +kernel, by decide +kernel⟩, List.mem_of_getElem? (i := 195) (by decide +kernel), List.mem_of_getElem? (i := 813) (by decide +kernel), List.mem_of_getElem? (i := 814) (by decide +kernel)⟩
theorem lw_p23 : lw_okq (⟨"ClothPlay$Hands", "setsFor", "(II)J"⟩, 8) := ⟨⟨by decide +kernel, by decide +kernel⟩, List.mem_of_getElem? (i := 215) (by decide +kernel), List.mem_of_getElem? (i := 829) (by decide +kernel), List.mem_of_getElem? (i := 830) (by decide +kernel)⟩
theorem lw_p24 : lw_okq (⟨"ClothPlay$Hands", "handsSuffice", "(I)Z"⟩, 8) := ⟨⟨by decide +kernel, by decide +kernel⟩, List.mem_of_getElem? (i := 215) (by decide +kernel), List.mem_of_getElem? (i := 834) (by decide +kernel), List.mem_of_getElem? (i := 835) (by decide +kernel)⟩
theorem lw_p25 : lw_okq (⟨"ClothPlay$Hands", "isTogether", "(I)Z"⟩, 8) := ⟨⟨by decide +kernel, by decide +kernel⟩, List.mem_of_getElem? (i := 215) (by decide +kernel), List.mem_of_getElem? (i := 838) (by decide +kernel), List.mem_of_getElem? (i := 839) (by decide +kernel)⟩
theorem lw_p26 : lw_okq (⟨"ClothPlay$Hands", "reached", "(II)J"⟩, 8) := ⟨⟨by decide +kernel, by decide +kernel⟩, List.mem_of_getElem? (i := 215) (by decide +kernel), List.mem_of_getElem? (i := 871) (by decide +kernel), List.mem_of_getElem? (i := 872) (by decide +kernel)⟩
theorem lw_p27 : lw_okq (⟨"ClothPlay$Planner", "fillCosts", "()V"⟩, 15) := ⟨⟨by decide +kernel, by decide +kernel⟩, List.mem_of_getElem? (i := 249) (by decide +kernel), List.mem_of_getElem? (i := 882) (by decide +kernel), List.mem_of_getElem? (i := 883) (by decide +kernel)⟩
theorem lw_p28 : lw_okq (⟨"ClothPlay$Planner", "holderOf", "(I)I"⟩, 15) := ⟨⟨by decide +kernel, by decide +kernel⟩, List.mem_of_getElem? (i := 249) (by decide +kernel), List.mem_of_getElem? (i := 887) (by decide +kernel), List.mem_of_getElem? (i := 888) (by decide +kernel)⟩
theorem lw_p29 : lw_okq (⟨"ClothPlay$Planner", "carryBack", "(I)V"⟩, 15) := ⟨⟨by decide +kernel, by decide +kernel⟩, List.mem_of_getElem? (i := 249) (by decide +kernel), List.mem_of_getElem? (i := 896) (by decide +kernel), List.mem_of_getElem? (i := 897) (by decide +kernel)⟩
theorem lw_p30 : lw_okq (⟨"ClothPlay$Planner", "sizeOf", "(I)I"⟩, 15) := ⟨⟨by decide +kernel, by decide +kernel⟩, List.mem_of_getElem? (i := 249) (by decide +kernel), List.mem_of_getElem? (i := 900) (by decide +kernel), List.mem_of_getElem? (i := 901) (by decide +kernel)⟩
theorem lw_p31 : lw_okq (⟨"ClothPlay$Planner", "mix", "(IIIII)V"⟩, 15) := ⟨⟨by decide +kernel, by decide +kernel⟩, List.mem_of_getElem? (i := 249) (by decide +kernel), List.mem_of_getElem? (i := 906) (by decide +kernel), List.mem_of_getElem? (i := 907) (by decide +kernel)⟩
def lw_privs_2 : List (MethodName × Nat) := [(⟨"ClothPlay$Reader", "readWithin", "(III)Z"⟩, 11), (⟨"ClothPlay$Reader", "readComparison", "(I)Z"⟩, 11), (⟨"ClothPlay$Reader", "operationAt", "(I)I"⟩, 11), (⟨"ClothPlay$Reader", "readPart", "(I)Z"⟩, 11), (⟨"ClothPlay$Hands", "farFrom", "(II)I"⟩, 8), (⟨"ClothPlay$Hands", "allowedFor", "(II)I"⟩, 8), (⟨"ClothPlay$Asker", "valueOf", "(II)J"⟩, 4), (⟨"ClothPlay$Hands", "setsFor", "(II)J"⟩, 8), (⟨"ClothPlay$Hands", "handsSuffice", "(I)Z"⟩, 8), (⟨"ClothPlay$Hands", "isTogether", "(I)Z"⟩, 8), (⟨"ClothPlay$Hands", "reached", "(II)J"⟩, 8), (⟨"ClothPlay$Planner", "fillCosts", "()V"⟩, 15), (⟨"ClothPlay$Planner", "holderOf", "(I)I"⟩, 15), (⟨"ClothPlay$Planner", "carryBack", "(I)V"⟩, 15), (⟨"ClothPlay$Planner", "sizeOf", "(I)I"⟩, 15), (⟨"ClothPlay$Planner", "mix", "(IIIII)V"⟩, 15)]
theorem lw_r2 : ∀ q ∈ lw_privs_2, lw_okq q := List.forall_mem_cons.mpr ⟨lw_p16, List.forall_mem_cons.mpr ⟨lw_p17, List.forall_mem_cons.mpr ⟨lw_p18, List.forall_mem_cons.mpr ⟨lw_p19, List.forall_mem_cons.mpr ⟨lw_p20, List.forall_mem_cons.mpr ⟨lw_p21, List.forall_mem_cons.mpr ⟨lw_p22, List.forall_mem_cons.mpr ⟨lw_p23, List.forall_mem_cons.mpr ⟨lw_p24, List.forall_mem_cons.mpr ⟨lw_p25, List.forall_mem_cons.mpr ⟨lw_p26, List.forall_mem_cons.mpr ⟨lw_p27, List.forall_mem_cons.mpr ⟨lw_p28, List.forall_mem_cons.mpr ⟨lw_p29, List.forall_mem_cons.mpr ⟨lw_p30, List.forall_mem_cons.mpr ⟨lw_p31, fun _ h => absurd h List.not_mem_nil⟩⟩⟩⟩⟩⟩⟩⟩⟩⟩⟩⟩⟩⟩⟩⟩
theorem lw_p32 : lw_okq (⟨"ClothPlay$Planner", "keepHoldings", "(I)V"⟩, 15) := ⟨⟨by decide +kernel, by decide +kernel⟩, List.mem_of_getElem? (i := 249) (by decide +kernel), List.mem_of_getElem? (i := 916) (by decide +kernel), List.mem_of_getElem? (i := 917) (by decide +kernel)⟩
theorem lw_p33 : lw_okq (⟨"ClothPlay$Planner", "give", "(III)V"⟩, 15) := ⟨⟨by decide +kernel, by decide +kernel⟩, List.mem_of_getElem? (i := 249) (by decide +kernel), List.mem_of_getElem? (i := 926) (by decide +kernel), List.mem_of_getElem? (i := 927) (by decide +kernel)⟩
theorem lw_p34 : lw_okq (⟨"ClothPlay$Planner", "sumUp", "()V"⟩, 15) := ⟨⟨by decide +kernel, by decide +kernel⟩, List.mem_of_getElem? (i := 249) (by decide +kernel), List.mem_of_getElem? (i := 931) (by decide +kernel), List.mem_of_getElem? (i := 932) (by decide +kernel)⟩
theorem lw_p35 : lw_okq (⟨"ClothPlay$Planner", "followFirst", "()V"⟩, 15) := ⟨⟨by decide +kernel, by decide +kernel⟩, List.mem_of_getElem? (i := 249) (by decide +kernel), List.mem_of_getElem? (i := 935) (by decide +kernel), List.mem_of_getElem? (i := 936) (by decide +kernel)⟩
theorem lw_p36 : lw_okq (⟨"ClothPlay$Planner", "passTo", "(II)I"⟩, 15) := ⟨⟨by decide +kernel, by decide +kernel⟩, List.mem_of_getElem? (i := 249) (by decide +kernel), List.mem_of_getElem? (i := 939) (by decide +kernel), List.mem_of_getElem? (i := 940) (by decide +kernel)⟩
theorem lw_p37 : lw_okq (⟨"ClothPlay", "canBeAsked", "(I)Z"⟩, 16) := ⟨⟨by decide +kernel, by decide +kernel⟩, List.mem_of_getElem? (i := 24) (by decide +kernel), List.mem_of_getElem? (i := 978) (by decide +kernel), List.mem_of_getElem? (i := 979) (by decide +kernel)⟩
theorem lw_p38 : lw_okq (⟨"ClothPlay$Target", "lookFrom", "(LClothPlay$Scene;I)V"⟩, 8) := ⟨⟨by decide +kernel, by decide +kernel⟩, List.mem_of_getElem? (i := 310) (by decide +kernel), List.mem_of_getElem? (i := 992) (by decide +kernel), List.mem_of_getElem? (i := 993) (by decide +kernel)⟩
theorem lw_p39 : lw_okq (⟨"ClothPlay$Maker", "gatherCast", "()V"⟩, 14) := ⟨⟨by decide +kernel, by decide +kernel⟩, List.mem_of_getElem? (i := 304) (by decide +kernel), List.mem_of_getElem? (i := 998) (by decide +kernel), List.mem_of_getElem? (i := 999) (by decide +kernel)⟩
theorem lw_p40 : lw_okq (⟨"ClothPlay$Prints", "add", "(JI)V"⟩, 9) := ⟨⟨by decide +kernel, by decide +kernel⟩, List.mem_of_getElem? (i := 1001) (by decide +kernel), List.mem_of_getElem? (i := 1057) (by decide +kernel), List.mem_of_getElem? (i := 1058) (by decide +kernel)⟩
theorem lw_p41 : lw_okq (⟨"ClothPlay$Maker", "trySet", "(I)V"⟩, 14) := ⟨⟨by decide +kernel, by decide +kernel⟩, List.mem_of_getElem? (i := 304) (by decide +kernel), List.mem_of_getElem? (i := 1076) (by decide +kernel), List.mem_of_getElem? (i := 1077) (by decide +kernel)⟩
theorem lw_p42 : lw_okq (⟨"ClothPlay$Maker", "trySingle", "(ILClothPlay$Prints;)V"⟩, 14) := ⟨⟨by decide +kernel, by decide +kernel⟩, List.mem_of_getElem? (i := 304) (by decide +kernel), List.mem_of_getElem? (i := 1080) (by decide +kernel), List.mem_of_getElem? (i := 1081) (by decide +kernel)⟩
theorem lw_p43 : lw_okq (⟨"ClothPlay$Maker", "isBetter", "(I)Z"⟩, 14) := ⟨⟨by decide +kernel, by decide +kernel⟩, List.mem_of_getElem? (i := 304) (by decide +kernel), List.mem_of_getElem? (i := 1084) (by decide +kernel), List.mem_of_getElem? (i := 1085) (by decide +kernel)⟩
theorem lw_p44 : lw_okq (⟨"ClothPlay$Maker", "choose", "(I)V"⟩, 14) := ⟨⟨by decide +kernel, by decide +kernel⟩, List.mem_of_getElem? (i := 304) (by decide +kernel), List.mem_of_getElem? (i := 1088) (by decide +kernel), List.mem_of_getElem? (i := 1089) (by decide +kernel)⟩
theorem lw_p45 : lw_okq (⟨"ClothPlay$Maker", "tryPair", "(ILClothPlay$Prints;LClothPlay$Prints;)V"⟩, 14) := ⟨⟨by decide +kernel, by decide +kernel⟩, List.mem_of_getElem? (i := 304) (by decide +kernel), List.mem_of_getElem? (i := 1092) (by decide +kernel), List.mem_of_getElem? (i := 1093) (by decide +kernel)⟩
theorem lw_p46 : lw_okq (⟨"ClothPlay$Maker", "countFilling", "(LClothPlay$Prints;JJJI)J"⟩, 14) := ⟨⟨by decide +kernel, by decide +kernel⟩, List.mem_of_getElem? (i := 304) (by decide +kernel), List.mem_of_getElem? (i := 1097) (by decide +kernel), List.mem_of_getElem? (i := 1098) (by decide +kernel)⟩
theorem lw_p47 : lw_okq (⟨"ClothPlay$Maker", "tryTriple", "(ILClothPlay$Prints;LClothPlay$Prints;LClothPlay$Prints;)V"⟩, 14) := ⟨⟨by decide +kernel, by decide +kernel⟩, List.mem_of_getElem? (i := 304) (by decide +kernel), List.mem_of_getElem? (i := 1103) (by decide +kernel), List.mem_of_getElem? (i := 1104) (by decide +kernel)⟩
def lw_privs_3 : List (MethodName × Nat) := [(⟨"ClothPlay$Planner", "keepHoldings", "(I)V"⟩, 15), (⟨"ClothPlay$Planner", "give", "(III)V"⟩, 15), (⟨"ClothPlay$Planner", "sumUp", "()V"⟩, 15), (⟨"ClothPlay$Planner", "followFirst", "()V"⟩, 15), (⟨"ClothPlay$Planner", "passTo", "(II)I"⟩, 15), (⟨"ClothPlay", "canBeAsked", "(I)Z"⟩, 16), (⟨"ClothPlay$Target", "lookFrom", "(LClothPlay$Scene;I)V"⟩, 8), (⟨"ClothPlay$Maker", "gatherCast", "()V"⟩, 14), (⟨"ClothPlay$Prints", "add", "(JI)V"⟩, 9), (⟨"ClothPlay$Maker", "trySet", "(I)V"⟩, 14), (⟨"ClothPlay$Maker", "trySingle", "(ILClothPlay$Prints;)V"⟩, 14), (⟨"ClothPlay$Maker", "isBetter", "(I)Z"⟩, 14), (⟨"ClothPlay$Maker", "choose", "(I)V"⟩, 14), (⟨"ClothPlay$Maker", "tryPair", "(ILClothPlay$Prints;LClothPlay$Prints;)V"⟩, 14), (⟨"ClothPlay$Maker", "countFilling", "(LClothPlay$Prints;JJJI)J"⟩, 14), (⟨"ClothPlay$Maker", "tryTriple", "(ILClothPlay$Prints;LClothPlay$Prints;LClothPlay$Prints;)V"⟩, 14)]
theorem lw_r3 : ∀ q ∈ lw_privs_3, lw_okq q := List.forall_mem_cons.mpr ⟨lw_p32, List.forall_mem_cons.mpr ⟨lw_p33, List.forall_mem_cons.mpr ⟨lw_p34, List.forall_mem_cons.mpr ⟨lw_p35, List.forall_mem_cons.mpr ⟨lw_p36, List.forall_mem_cons.mpr ⟨lw_p37, List.forall_mem_cons.mpr ⟨lw_p38, List.forall_mem_cons.mpr ⟨lw_p39, List.forall_mem_cons.mpr ⟨lw_p40, List.forall_mem_cons.mpr ⟨lw_p41, List.forall_mem_cons.mpr ⟨lw_p42, List.forall_mem_cons.mpr ⟨lw_p43, List.forall_mem_cons.mpr ⟨lw_p44, List.forall_mem_cons.mpr ⟨lw_p45, List.forall_mem_cons.mpr ⟨lw_p46, List.forall_mem_cons.mpr ⟨lw_p47, fun _ h => absurd h List.not_mem_nil⟩⟩⟩⟩⟩⟩⟩⟩⟩⟩⟩⟩⟩⟩⟩⟩
theorem lw_p48 : lw_okq (⟨"ClothPlay$Maker", "countBeside", "(LClothPlay$Prints;LClothPlay$Prints;JIZ)J"⟩, 14) := ⟨⟨by decide +kernel, by decide +kernel⟩, List.mem_of_getElem? (i := 304) (by decide +kernel), List.mem_of_getElem? (i := 1110) (by decide +kernel), List.mem_of_getElem? (i := 1111) (by decide +kernel)⟩
theorem lw_p49 : lw_okq (⟨"ClothPlay$Maker", "keepFirst", "(II)V"⟩, 14) := ⟨⟨by decide +kernel, by decide +kernel⟩, List.mem_of_getElem? (i := 304) (by decide +kernel), List.mem_of_getElem? (i := 1114) (by decide +kernel), List.mem_of_getElem? (i := 1115) (by decide +kernel)⟩
theorem lw_p50 : lw_okq (⟨"ClothPlay", "countBeats", "(I)I"⟩, 16) := ⟨⟨by decide +kernel, by decide +kernel⟩, List.mem_of_getElem? (i := 24) (by decide +kernel), List.mem_of_getElem? (i := 1173) (by decide +kernel), List.mem_of_getElem? (i := 1174) (by decide +kernel)⟩
theorem lw_p51 : lw_okq (⟨"ClothPlayModel", "tell", "(I)I"⟩, 62) := ⟨⟨by decide +kernel, by decide +kernel⟩, List.mem_of_getElem? (i := 1181) (by decide +kernel), List.mem_of_getElem? (i := 1390) (by decide +kernel), List.mem_of_getElem? (i := 1391) (by decide +kernel)⟩
theorem lw_p52 : lw_okq (⟨"ClothPlayModel", "isFigure", "(I)Z"⟩, 62) := ⟨⟨by decide +kernel, by decide +kernel⟩, List.mem_of_getElem? (i := 1181) (by decide +kernel), List.mem_of_getElem? (i := 1407) (by decide +kernel), List.mem_of_getElem? (i := 1408) (by decide +kernel)⟩
theorem lw_p53 : lw_okq (⟨"ClothPlayModel", "change", "(II)I"⟩, 62) := ⟨⟨by decide +kernel, by decide +kernel⟩, List.mem_of_getElem? (i := 1181) (by decide +kernel), List.mem_of_getElem? (i := 1411) (by decide +kernel), List.mem_of_getElem? (i := 1412) (by decide +kernel)⟩
theorem lw_p54 : lw_okq (⟨"ClothPlayModel", "was", "(I)I"⟩, 62) := ⟨⟨by decide +kernel, by decide +kernel⟩, List.mem_of_getElem? (i := 1181) (by decide +kernel), List.mem_of_getElem? (i := 1415) (by decide +kernel), List.mem_of_getElem? (i := 1416) (by decide +kernel)⟩
theorem lw_p55 : lw_okq (⟨"ClothPlayModel", "put", "(IIIIII)V"⟩, 62) := ⟨⟨by decide +kernel, by decide +kernel⟩, List.mem_of_getElem? (i := 1181) (by decide +kernel), List.mem_of_getElem? (i := 1440) (by decide +kernel), List.mem_of_getElem? (i := 1441) (by decide +kernel)⟩
theorem lw_p56 : lw_okq (⟨"ClothPlayModel", "placeOf", "(III)I"⟩, 62) := ⟨⟨by decide +kernel, by decide +kernel⟩, List.mem_of_getElem? (i := 1181) (by decide +kernel), List.mem_of_getElem? (i := 1448) (by decide +kernel), List.mem_of_getElem? (i := 1449) (by decide +kernel)⟩
theorem lw_p57 : lw_okq (⟨"ClothPlayModel", "isOn", "(II)Z"⟩, 62) := ⟨⟨by decide +kernel, by decide +kernel⟩, List.mem_of_getElem? (i := 1181) (by decide +kernel), List.mem_of_getElem? (i := 1456) (by decide +kernel), List.mem_of_getElem? (i := 1457) (by decide +kernel)⟩
theorem lw_p58 : lw_okq (⟨"ClothPlayModel", "deepOf", "(II)I"⟩, 62) := ⟨⟨by decide +kernel, by decide +kernel⟩, List.mem_of_getElem? (i := 1181) (by decide +kernel), List.mem_of_getElem? (i := 1460) (by decide +kernel), List.mem_of_getElem? (i := 1461) (by decide +kernel)⟩
theorem lw_p59 : lw_okq (⟨"ClothPlayModel", "term", "(I)I"⟩, 62) := ⟨⟨by decide +kernel, by decide +kernel⟩, List.mem_of_getElem? (i := 1181) (by decide +kernel), List.mem_of_getElem? (i := 1464) (by decide +kernel), List.mem_of_getElem? (i := 1465) (by decide +kernel)⟩
theorem lw_p60 : lw_okq (⟨"ClothPlayModel", "four", "(I)V"⟩, 62) := ⟨⟨by decide +kernel, by decide +kernel⟩, List.mem_of_getElem? (i := 1181) (by decide +kernel), List.mem_of_getElem? (i := 1492) (by decide +kernel), List.mem_of_getElem? (i := 1493) (by decide +kernel)⟩
theorem lw_p61 : lw_okq (⟨"ClothPlayModel", "begin", "()V"⟩, 62) := ⟨⟨by decide +kernel, by decide +kernel⟩, List.mem_of_getElem? (i := 1181) (by decide +kernel), List.mem_of_getElem? (i := 1508) (by decide +kernel), List.mem_of_getElem? (i := 1509) (by decide +kernel)⟩
theorem lw_p62 : lw_okq (⟨"ClothPlayModel", "next", "()V"⟩, 62) := ⟨⟨by decide +kernel, by decide +kernel⟩, List.mem_of_getElem? (i := 1181) (by decide +kernel), List.mem_of_getElem? (i := 1512) (by decide +kernel), List.mem_of_getElem? (i := 1513) (by decide +kernel)⟩
theorem lw_p63 : lw_okq (⟨"ClothPlayModel", "readClause", "()V"⟩, 62) := ⟨⟨by decide +kernel, by decide +kernel⟩, List.mem_of_getElem? (i := 1181) (by decide +kernel), List.mem_of_getElem? (i := 1527) (by decide +kernel), List.mem_of_getElem? (i := 1528) (by decide +kernel)⟩
def lw_privs_4 : List (MethodName × Nat) := [(⟨"ClothPlay$Maker", "countBeside", "(LClothPlay$Prints;LClothPlay$Prints;JIZ)J"⟩, 14), (⟨"ClothPlay$Maker", "keepFirst", "(II)V"⟩, 14), (⟨"ClothPlay", "countBeats", "(I)I"⟩, 16), (⟨"ClothPlayModel", "tell", "(I)I"⟩, 62), (⟨"ClothPlayModel", "isFigure", "(I)Z"⟩, 62), (⟨"ClothPlayModel", "change", "(II)I"⟩, 62), (⟨"ClothPlayModel", "was", "(I)I"⟩, 62), (⟨"ClothPlayModel", "put", "(IIIIII)V"⟩, 62), (⟨"ClothPlayModel", "placeOf", "(III)I"⟩, 62), (⟨"ClothPlayModel", "isOn", "(II)Z"⟩, 62), (⟨"ClothPlayModel", "deepOf", "(II)I"⟩, 62), (⟨"ClothPlayModel", "term", "(I)I"⟩, 62), (⟨"ClothPlayModel", "four", "(I)V"⟩, 62), (⟨"ClothPlayModel", "begin", "()V"⟩, 62), (⟨"ClothPlayModel", "next", "()V"⟩, 62), (⟨"ClothPlayModel", "readClause", "()V"⟩, 62)]
theorem lw_r4 : ∀ q ∈ lw_privs_4, lw_okq q := List.forall_mem_cons.mpr ⟨lw_p48, List.forall_mem_cons.mpr ⟨lw_p49, List.forall_mem_cons.mpr ⟨lw_p50, List.forall_mem_cons.mpr ⟨lw_p51, List.forall_mem_cons.mpr ⟨lw_p52, List.forall_mem_cons.mpr ⟨lw_p53, List.forall_mem_cons.mpr ⟨lw_p54, List.forall_mem_cons.mpr ⟨lw_p55, List.forall_mem_cons.mpr ⟨lw_p56, List.forall_mem_cons.mpr ⟨lw_p57, List.forall_mem_cons.mpr ⟨lw_p58, List.forall_mem_cons.mpr ⟨lw_p59, List.forall_mem_cons.mpr ⟨lw_p60, List.forall_mem_cons.mpr ⟨lw_p61, List.forall_mem_cons.mpr ⟨lw_p62, List.forall_mem_cons.mpr ⟨lw_p63, fun _ h => absurd h List.not_mem_nil⟩⟩⟩⟩⟩⟩⟩⟩⟩⟩⟩⟩⟩⟩⟩⟩
theorem lw_p64 : lw_okq (⟨"ClothPlayModel", "isWord", "(J)Z"⟩, 62) := ⟨⟨by decide +kernel, by decide +kernel⟩, List.mem_of_getElem? (i := 1181) (by decide +kernel), List.mem_of_getElem? (i := 1531) (by decide +kernel), List.mem_of_getElem? (i := 1532) (by decide +kernel)⟩
theorem lw_p65 : lw_okq (⟨"ClothPlayModel", "must", "(Z)V"⟩, 62) := ⟨⟨by decide +kernel, by decide +kernel⟩, List.mem_of_getElem? (i := 1181) (by decide +kernel), List.mem_of_getElem? (i := 1538) (by decide +kernel), List.mem_of_getElem? (i := 1539) (by decide +kernel)⟩
theorem lw_p66 : lw_okq (⟨"ClothPlayModel", "readBeat", "()V"⟩, 62) := ⟨⟨by decide +kernel, by decide +kernel⟩, List.mem_of_getElem? (i := 1181) (by decide +kernel), List.mem_of_getElem? (i := 1542) (by decide +kernel), List.mem_of_getElem? (i := 1543) (by decide +kernel)⟩
theorem lw_p67 : lw_okq (⟨"ClothPlayModel", "number", "(JJ)I"⟩, 62) := ⟨⟨by decide +kernel, by decide +kernel⟩, List.mem_of_getElem? (i := 1181) (by decide +kernel), List.mem_of_getElem? (i := 1546) (by decide +kernel), List.mem_of_getElem? (i := 1547) (by decide +kernel)⟩
theorem lw_p68 : lw_okq (⟨"ClothPlayModel", "isSign", "(I)Z"⟩, 62) := ⟨⟨by decide +kernel, by decide +kernel⟩, List.mem_of_getElem? (i := 1181) (by decide +kernel), List.mem_of_getElem? (i := 1554) (by decide +kernel), List.mem_of_getElem? (i := 1555) (by decide +kernel)⟩
theorem lw_p69 : lw_okq (⟨"ClothPlayModel", "readExpression", "(Z)V"⟩, 62) := ⟨⟨by decide +kernel, by decide +kernel⟩, List.mem_of_getElem? (i := 1181) (by decide +kernel), List.mem_of_getElem? (i := 1558) (by decide +kernel), List.mem_of_getElem? (i := 1559) (by decide +kernel)⟩
theorem lw_p70 : lw_okq (⟨"ClothPlayModel", "readPlain", "()I"⟩, 62) := ⟨⟨by decide +kernel, by decide +kernel⟩, List.mem_of_getElem? (i := 1181) (by decide +kernel), List.mem_of_getElem? (i := 1562) (by decide +kernel), List.mem_of_getElem? (i := 1563) (by decide +kernel)⟩
theorem lw_p71 : lw_okq (⟨"ClothPlayModel", "push", "(II)V"⟩, 62) := ⟨⟨by decide +kernel, by decide +kernel⟩, List.mem_of_getElem? (i := 1181) (by decide +kernel), List.mem_of_getElem? (i := 1567) (by decide +kernel), List.mem_of_getElem? (i := 1568) (by decide +kernel)⟩
theorem lw_p72 : lw_okq (⟨"ClothPlayModel", "openBracket", "(I)V"⟩, 62) := ⟨⟨by decide +kernel, by decide +kernel⟩, List.mem_of_getElem? (i := 1181) (by decide +kernel), List.mem_of_getElem? (i := 1571) (by decide +kernel), List.mem_of_getElem? (i := 1572) (by decide +kernel)⟩
theorem lw_p73 : lw_okq (⟨"ClothPlayModel", "readPart", "()I"⟩, 62) := ⟨⟨by decide +kernel, by decide +kernel⟩, List.mem_of_getElem? (i := 1181) (by decide +kernel), List.mem_of_getElem? (i := 1575) (by decide +kernel), List.mem_of_getElem? (i := 1576) (by decide +kernel)⟩
theorem lw_p74 : lw_okq (⟨"ClothPlayModel", "partAt", "()I"⟩, 62) := ⟨⟨by decide +kernel, by decide +kernel⟩, List.mem_of_getElem? (i := 1181) (by decide +kernel), List.mem_of_getElem? (i := 1579) (by decide +kernel), List.mem_of_getElem? (i := 1580) (by decide +kernel)⟩
theorem lw_p75 : lw_okq (⟨"ClothPlayModel", "leaf", "(ZII)V"⟩, 62) := ⟨⟨by decide +kernel, by decide +kernel⟩, List.mem_of_getElem? (i := 1181) (by decide +kernel), List.mem_of_getElem? (i := 1584) (by decide +kernel), List.mem_of_getElem? (i := 1585) (by decide +kernel)⟩
theorem lw_p76 : lw_okq (⟨"ClothPlayModel", "emit", "(II)V"⟩, 62) := ⟨⟨by decide +kernel, by decide +kernel⟩, List.mem_of_getElem? (i := 1181) (by decide +kernel), List.mem_of_getElem? (i := 1588) (by decide +kernel), List.mem_of_getElem? (i := 1589) (by decide +kernel)⟩
theorem lw_p77 : lw_okq (⟨"ClothPlayModel", "behindSum", "(Z)I"⟩, 62) := ⟨⟨by decide +kernel, by decide +kernel⟩, List.mem_of_getElem? (i := 1181) (by decide +kernel), List.mem_of_getElem? (i := 1592) (by decide +kernel), List.mem_of_getElem? (i := 1593) (by decide +kernel)⟩
theorem lw_p78 : lw_okq (⟨"ClothPlayModel", "settle", "(I)V"⟩, 62) := ⟨⟨by decide +kernel, by decide +kernel⟩, List.mem_of_getElem? (i := 1181) (by decide +kernel), List.mem_of_getElem? (i := 1599) (by decide +kernel), List.mem_of_getElem? (i := 1600) (by decide +kernel)⟩
theorem lw_p79 : lw_okq (⟨"ClothPlayModel", "inner", "()I"⟩, 62) := ⟨⟨by decide +kernel, by decide +kernel⟩, List.mem_of_getElem? (i := 1181) (by decide +kernel), List.mem_of_getElem? (i := 1603) (by decide +kernel), List.mem_of_getElem? (i := 1604) (by decide +kernel)⟩
def lw_privs_5 : List (MethodName × Nat) := [(⟨"ClothPlayModel", "isWord", "(J)Z"⟩, 62), (⟨"ClothPlayModel", "must", "(Z)V"⟩, 62), (⟨"ClothPlayModel", "readBeat", "()V"⟩, 62), (⟨"ClothPlayModel", "number", "(JJ)I"⟩, 62), (⟨"ClothPlayModel", "isSign", "(I)Z"⟩, 62), (⟨"ClothPlayModel", "readExpression", "(Z)V"⟩, 62), (⟨"ClothPlayModel", "readPlain", "()I"⟩, 62), (⟨"ClothPlayModel", "push", "(II)V"⟩, 62), (⟨"ClothPlayModel", "openBracket", "(I)V"⟩, 62), (⟨"ClothPlayModel", "readPart", "()I"⟩, 62), (⟨"ClothPlayModel", "partAt", "()I"⟩, 62), (⟨"ClothPlayModel", "leaf", "(ZII)V"⟩, 62), (⟨"ClothPlayModel", "emit", "(II)V"⟩, 62), (⟨"ClothPlayModel", "behindSum", "(Z)I"⟩, 62), (⟨"ClothPlayModel", "settle", "(I)V"⟩, 62), (⟨"ClothPlayModel", "inner", "()I"⟩, 62)]
theorem lw_r5 : ∀ q ∈ lw_privs_5, lw_okq q := List.forall_mem_cons.mpr ⟨lw_p64, List.forall_mem_cons.mpr ⟨lw_p65, List.forall_mem_cons.mpr ⟨lw_p66, List.forall_mem_cons.mpr ⟨lw_p67, List.forall_mem_cons.mpr ⟨lw_p68, List.forall_mem_cons.mpr ⟨lw_p69, List.forall_mem_cons.mpr ⟨lw_p70, List.forall_mem_cons.mpr ⟨lw_p71, List.forall_mem_cons.mpr ⟨lw_p72, List.forall_mem_cons.mpr ⟨lw_p73, List.forall_mem_cons.mpr ⟨lw_p74, List.forall_mem_cons.mpr ⟨lw_p75, List.forall_mem_cons.mpr ⟨lw_p76, List.forall_mem_cons.mpr ⟨lw_p77, List.forall_mem_cons.mpr ⟨lw_p78, List.forall_mem_cons.mpr ⟨lw_p79, fun _ h => absurd h List.not_mem_nil⟩⟩⟩⟩⟩⟩⟩⟩⟩⟩⟩⟩⟩⟩⟩⟩
theorem lw_p80 : lw_okq (⟨"ClothPlayModel", "isCompared", "()Z"⟩, 62) := ⟨⟨by decide +kernel, by decide +kernel⟩, List.mem_of_getElem? (i := 1181) (by decide +kernel), List.mem_of_getElem? (i := 1607) (by decide +kernel), List.mem_of_getElem? (i := 1608) (by decide +kernel)⟩
theorem lw_p81 : lw_okq (⟨"ClothPlayModel", "behindTest", "()I"⟩, 62) := ⟨⟨by decide +kernel, by decide +kernel⟩, List.mem_of_getElem? (i := 1181) (by decide +kernel), List.mem_of_getElem? (i := 1614) (by decide +kernel), List.mem_of_getElem? (i := 1615) (by decide +kernel)⟩
theorem lw_p82 : lw_okq (⟨"ClothPlayModel", "allRow", "(II)I"⟩, 62) := ⟨⟨by decide +kernel, by decide +kernel⟩, List.mem_of_getElem? (i := 1181) (by decide +kernel), List.mem_of_getElem? (i := 1625) (by decide +kernel), List.mem_of_getElem? (i := 1626) (by decide +kernel)⟩
theorem lw_p83 : lw_okq (⟨"ClothPlayModel", "shadowRow", "(III)I"⟩, 62) := ⟨⟨by decide +kernel, by decide +kernel⟩, List.mem_of_getElem? (i := 1181) (by decide +kernel), List.mem_of_getElem? (i := 1629) (by decide +kernel), List.mem_of_getElem? (i := 1630) (by decide +kernel)⟩
theorem lw_p84 : lw_okq (⟨"ClothPlayModel", "onBits", "(I)I"⟩, 62) := ⟨⟨by decide +kernel, by decide +kernel⟩, List.mem_of_getElem? (i := 1181) (by decide +kernel), List.mem_of_getElem? (i := 1653) (by decide +kernel), List.mem_of_getElem? (i := 1654) (by decide +kernel)⟩
theorem lw_p85 : lw_okq (⟨"ClothPlayModel", "canHold", "(III)Z"⟩, 62) := ⟨⟨by decide +kernel, by decide +kernel⟩, List.mem_of_getElem? (i := 1181) (by decide +kernel), List.mem_of_getElem? (i := 1657) (by decide +kernel), List.mem_of_getElem? (i := 1658) (by decide +kernel)⟩
theorem lw_p86 : lw_okq (⟨"ClothPlayModel", "tells", "(IIIIIII)I"⟩, 62) := ⟨⟨by decide +kernel, by decide +kernel⟩, List.mem_of_getElem? (i := 1181) (by decide +kernel), List.mem_of_getElem? (i := 1661) (by decide +kernel), List.mem_of_getElem? (i := 1662) (by decide +kernel)⟩
theorem lw_p87 : lw_okq (⟨"ClothPlayModel", "isSo", "(I)Z"⟩, 62) := ⟨⟨by decide +kernel, by decide +kernel⟩, List.mem_of_getElem? (i := 1181) (by decide +kernel), List.mem_of_getElem? (i := 1665) (by decide +kernel), List.mem_of_getElem? (i := 1666) (by decide +kernel)⟩
theorem lw_p88 : lw_okq (⟨"ClothPlayModel", "reckonAll", "(II)V"⟩, 62) := ⟨⟨by decide +kernel, by decide +kernel⟩, List.mem_of_getElem? (i := 1181) (by decide +kernel), List.mem_of_getElem? (i := 1669) (by decide +kernel), List.mem_of_getElem? (i := 1670) (by decide +kernel)⟩
theorem lw_p89 : lw_okq (⟨"ClothPlayModel", "reckon", "(IJJ)J"⟩, 62) := ⟨⟨by decide +kernel, by decide +kernel⟩, List.mem_of_getElem? (i := 1181) (by decide +kernel), List.mem_of_getElem? (i := 1673) (by decide +kernel), List.mem_of_getElem? (i := 1674) (by decide +kernel)⟩
theorem lw_p90 : lw_okq (⟨"ClothPlayModel", "isStill", "(II)Z"⟩, 62) := ⟨⟨by decide +kernel, by decide +kernel⟩, List.mem_of_getElem? (i := 1181) (by decide +kernel), List.mem_of_getElem? (i := 1679) (by decide +kernel), List.mem_of_getElem? (i := 1680) (by decide +kernel)⟩
theorem lw_p91 : lw_okq (⟨"ClothPlayModel", "isNear", "(III)Z"⟩, 62) := ⟨⟨by decide +kernel, by decide +kernel⟩, List.mem_of_getElem? (i := 1181) (by decide +kernel), List.mem_of_getElem? (i := 1683) (by decide +kernel), List.mem_of_getElem? (i := 1684) (by decide +kernel)⟩
theorem lw_p92 : lw_okq (⟨"ClothPlayModel", "holdingsOf", "(III)I"⟩, 62) := ⟨⟨by decide +kernel, by decide +kernel⟩, List.mem_of_getElem? (i := 1181) (by decide +kernel), List.mem_of_getElem? (i := 1691) (by decide +kernel), List.mem_of_getElem? (i := 1692) (by decide +kernel)⟩
theorem lw_p93 : lw_okq (⟨"ClothPlayModel", "findCan", "(II)V"⟩, 62) := ⟨⟨by decide +kernel, by decide +kernel⟩, List.mem_of_getElem? (i := 1181) (by decide +kernel), List.mem_of_getElem? (i := 1695) (by decide +kernel), List.mem_of_getElem? (i := 1696) (by decide +kernel)⟩
theorem lw_p94 : lw_okq (⟨"ClothPlayModel", "isHolding", "(III)Z"⟩, 62) := ⟨⟨by decide +kernel, by decide +kernel⟩, List.mem_of_getElem? (i := 1181) (by decide +kernel), List.mem_of_getElem? (i := 1699) (by decide +kernel), List.mem_of_getElem? (i := 1700) (by decide +kernel)⟩
theorem lw_p95 : lw_okq (⟨"ClothPlayModel", "findLeast", "()V"⟩, 62) := ⟨⟨by decide +kernel, by decide +kernel⟩, List.mem_of_getElem? (i := 1181) (by decide +kernel), List.mem_of_getElem? (i := 1710) (by decide +kernel), List.mem_of_getElem? (i := 1711) (by decide +kernel)⟩
def lw_privs_6 : List (MethodName × Nat) := [(⟨"ClothPlayModel", "isCompared", "()Z"⟩, 62), (⟨"ClothPlayModel", "behindTest", "()I"⟩, 62), (⟨"ClothPlayModel", "allRow", "(II)I"⟩, 62), (⟨"ClothPlayModel", "shadowRow", "(III)I"⟩, 62), (⟨"ClothPlayModel", "onBits", "(I)I"⟩, 62), (⟨"ClothPlayModel", "canHold", "(III)Z"⟩, 62), (⟨"ClothPlayModel", "tells", "(IIIIIII)I"⟩, 62), (⟨"ClothPlayModel", "isSo", "(I)Z"⟩, 62), (⟨"ClothPlayModel", "reckonAll", "(II)V"⟩, 62), (⟨"ClothPlayModel", "reckon", "(IJJ)J"⟩, 62), (⟨"ClothPlayModel", "isStill", "(II)Z"⟩, 62), (⟨"ClothPlayModel", "isNear", "(III)Z"⟩, 62), (⟨"ClothPlayModel", "holdingsOf", "(III)I"⟩, 62), (⟨"ClothPlayModel", "findCan", "(II)V"⟩, 62), (⟨"ClothPlayModel", "isHolding", "(III)Z"⟩, 62), (⟨"ClothPlayModel", "findLeast", "()V"⟩, 62)]
theorem lw_r6 : ∀ q ∈ lw_privs_6, lw_okq q := List.forall_mem_cons.mpr ⟨lw_p80, List.forall_mem_cons.mpr ⟨lw_p81, List.forall_mem_cons.mpr ⟨lw_p82, List.forall_mem_cons.mpr ⟨lw_p83, List.forall_mem_cons.mpr ⟨lw_p84, List.forall_mem_cons.mpr ⟨lw_p85, List.forall_mem_cons.mpr ⟨lw_p86, List.forall_mem_cons.mpr ⟨lw_p87, List.forall_mem_cons.mpr ⟨lw_p88, List.forall_mem_cons.mpr ⟨lw_p89, List.forall_mem_cons.mpr ⟨lw_p90, List.forall_mem_cons.mpr ⟨lw_p91, List.forall_mem_cons.mpr ⟨lw_p92, List.forall_mem_cons.mpr ⟨lw_p93, List.forall_mem_cons.mpr ⟨lw_p94, List.forall_mem_cons.mpr ⟨lw_p95, fun _ h => absurd h List.not_mem_nil⟩⟩⟩⟩⟩⟩⟩⟩⟩⟩⟩⟩⟩⟩⟩⟩
theorem lw_p96 : lw_okq (⟨"ClothPlayModel", "reckonBeat", "(I)V"⟩, 62) := ⟨⟨by decide +kernel, by decide +kernel⟩, List.mem_of_getElem? (i := 1181) (by decide +kernel), List.mem_of_getElem? (i := 1714) (by decide +kernel), List.mem_of_getElem? (i := 1715) (by decide +kernel)⟩
theorem lw_p97 : lw_okq (⟨"ClothPlayModel", "backFigure", "(IIZZ)V"⟩, 62) := ⟨⟨by decide +kernel, by decide +kernel⟩, List.mem_of_getElem? (i := 1181) (by decide +kernel), List.mem_of_getElem? (i := 1718) (by decide +kernel), List.mem_of_getElem? (i := 1719) (by decide +kernel)⟩
theorem lw_p98 : lw_okq (⟨"ClothPlayModel", "findFirst", "()V"⟩, 62) := ⟨⟨by decide +kernel, by decide +kernel⟩, List.mem_of_getElem? (i := 1181) (by decide +kernel), List.mem_of_getElem? (i := 1724) (by decide +kernel), List.mem_of_getElem? (i := 1725) (by decide +kernel)⟩
theorem lw_p99 : lw_okq (⟨"ClothPlayModel", "passedBetween", "(III)I"⟩, 62) := ⟨⟨by decide +kernel, by decide +kernel⟩, List.mem_of_getElem? (i := 1181) (by decide +kernel), List.mem_of_getElem? (i := 1728) (by decide +kernel), List.mem_of_getElem? (i := 1729) (by decide +kernel)⟩
theorem lw_p100 : lw_okq (⟨"ClothPlayModel", "isCast", "(I)Z"⟩, 62) := ⟨⟨by decide +kernel, by decide +kernel⟩, List.mem_of_getElem? (i := 1181) (by decide +kernel), List.mem_of_getElem? (i := 1752) (by decide +kernel), List.mem_of_getElem? (i := 1753) (by decide +kernel)⟩
theorem lw_p101 : lw_okq (⟨"ClothPlayModel", "findCells", "()Z"⟩, 62) := ⟨⟨by decide +kernel, by decide +kernel⟩, List.mem_of_getElem? (i := 1181) (by decide +kernel), List.mem_of_getElem? (i := 1756) (by decide +kernel), List.mem_of_getElem? (i := 1757) (by decide +kernel)⟩
theorem lw_p102 : lw_okq (⟨"ClothPlayModel", "findMade", "(I)V"⟩, 62) := ⟨⟨by decide +kernel, by decide +kernel⟩, List.mem_of_getElem? (i := 1181) (by decide +kernel), List.mem_of_getElem? (i := 1760) (by decide +kernel), List.mem_of_getElem? (i := 1761) (by decide +kernel)⟩
theorem lw_p103 : lw_okq (⟨"ClothPlayModel", "findShadows", "(I)V"⟩, 62) := ⟨⟨by decide +kernel, by decide +kernel⟩, List.mem_of_getElem? (i := 1181) (by decide +kernel), List.mem_of_getElem? (i := 1764) (by decide +kernel), List.mem_of_getElem? (i := 1765) (by decide +kernel)⟩
theorem lw_p104 : lw_okq (⟨"ClothPlayModel", "tryPlace", "(IIII)V"⟩, 62) := ⟨⟨by decide +kernel, by decide +kernel⟩, List.mem_of_getElem? (i := 1181) (by decide +kernel), List.mem_of_getElem? (i := 1768) (by decide +kernel), List.mem_of_getElem? (i := 1769) (by decide +kernel)⟩
theorem lw_p105 : lw_okq (⟨"ClothPlayModel", "goOver", "(II)V"⟩, 62) := ⟨⟨by decide +kernel, by decide +kernel⟩, List.mem_of_getElem? (i := 1181) (by decide +kernel), List.mem_of_getElem? (i := 1772) (by decide +kernel), List.mem_of_getElem? (i := 1773) (by decide +kernel)⟩
theorem lw_p106 : lw_okq (⟨"ClothPlayModel", "maskAt", "(II)J"⟩, 62) := ⟨⟨by decide +kernel, by decide +kernel⟩, List.mem_of_getElem? (i := 1181) (by decide +kernel), List.mem_of_getElem? (i := 1776) (by decide +kernel), List.mem_of_getElem? (i := 1777) (by decide +kernel)⟩
theorem lw_p107 : lw_okq (⟨"ClothPlayModel", "take", "(IZIII)V"⟩, 62) := ⟨⟨by decide +kernel, by decide +kernel⟩, List.mem_of_getElem? (i := 1181) (by decide +kernel), List.mem_of_getElem? (i := 1780) (by decide +kernel), List.mem_of_getElem? (i := 1781) (by decide +kernel)⟩
def lw_privs_7 : List (MethodName × Nat) := [(⟨"ClothPlayModel", "reckonBeat", "(I)V"⟩, 62), (⟨"ClothPlayModel", "backFigure", "(IIZZ)V"⟩, 62), (⟨"ClothPlayModel", "findFirst", "()V"⟩, 62), (⟨"ClothPlayModel", "passedBetween", "(III)I"⟩, 62), (⟨"ClothPlayModel", "isCast", "(I)Z"⟩, 62), (⟨"ClothPlayModel", "findCells", "()Z"⟩, 62), (⟨"ClothPlayModel", "findMade", "(I)V"⟩, 62), (⟨"ClothPlayModel", "findShadows", "(I)V"⟩, 62), (⟨"ClothPlayModel", "tryPlace", "(IIII)V"⟩, 62), (⟨"ClothPlayModel", "goOver", "(II)V"⟩, 62), (⟨"ClothPlayModel", "maskAt", "(II)J"⟩, 62), (⟨"ClothPlayModel", "take", "(IZIII)V"⟩, 62)]
theorem lw_r7 : ∀ q ∈ lw_privs_7, lw_okq q := List.forall_mem_cons.mpr ⟨lw_p96, List.forall_mem_cons.mpr ⟨lw_p97, List.forall_mem_cons.mpr ⟨lw_p98, List.forall_mem_cons.mpr ⟨lw_p99, List.forall_mem_cons.mpr ⟨lw_p100, List.forall_mem_cons.mpr ⟨lw_p101, List.forall_mem_cons.mpr ⟨lw_p102, List.forall_mem_cons.mpr ⟨lw_p103, List.forall_mem_cons.mpr ⟨lw_p104, List.forall_mem_cons.mpr ⟨lw_p105, List.forall_mem_cons.mpr ⟨lw_p106, List.forall_mem_cons.mpr ⟨lw_p107, fun _ h => absurd h List.not_mem_nil⟩⟩⟩⟩⟩⟩⟩⟩⟩⟩⟩⟩
def lw_privs : List (MethodName × Nat) := lw_privs_1 ++ (lw_privs_2 ++ (lw_privs_3 ++ (lw_privs_4 ++ (lw_privs_5 ++ (lw_privs_6 ++ (lw_privs_7))))))
def lw_tbl : List Cond := k2_sels lw_privs ++ tables_1
theorem lw_privs_ok : ∀ q ∈ lw_privs, lw_okq q := by
  show ∀ q ∈ lw_privs_1 ++ (lw_privs_2 ++ (lw_privs_3 ++ (lw_privs_4 ++ (lw_privs_5 ++ (lw_privs_6 ++ (lw_privs_7)))))), lw_okq q
  exact List.forall_mem_append.mpr ⟨lw_r1, List.forall_mem_append.mpr ⟨lw_r2, List.forall_mem_append.mpr ⟨lw_r3, List.forall_mem_append.mpr ⟨lw_r4, List.forall_mem_append.mpr ⟨lw_r5, List.forall_mem_append.mpr ⟨lw_r6, lw_r7⟩⟩⟩⟩⟩⟩
/-! ===== BEGIN words of one list among another's, by their places ===== -/
theorem goodIn_r {big : List Cond} (ws : List Cond) (ps : List Nat) (hp : ws = ps.filterMap (fun i => big[i]?)) (h : ws.all goodWord = true) : GoodIn big ws := by
  intro w hw
  have h1 := List.all_eq_true.mp h w hw
  rw [hp] at hw
  obtain ⟨i, -, hi⟩ := List.mem_filterMap.mp hw
  have hm : w ∈ big := by first | exact List.mem_of_getElem? hi | exact List.getElem?_mem hi
  exact ⟨hm, good_of_word h1⟩
theorem goodIn_app {big a b : List Cond} (ha : GoodIn big a) (hb : GoodIn big b) : GoodIn big (a ++ b) := fun w h => (List.mem_append.mp h).elim (ha w) (hb w)
theorem goodIn_ca {big a b : List Cond} {c : Cond} (ha : GoodIn big (c :: a)) (hb : GoodIn big b) : GoodIn big (c :: (a ++ b)) := fun w h => (List.mem_cons.mp h).elim (fun e => ha w (List.mem_cons.mpr (Or.inl e))) (fun h => (List.mem_append.mp h).elim (fun h => ha w (List.mem_cons.mpr (Or.inr h))) (hb w))
theorem goodIn_sub {big ws : List Cond} (hm : ∀ w ∈ ws, w ∈ big) (h : ws.all goodWord = true) : GoodIn big ws := fun w hw => ⟨hm w hw, good_of_word (List.all_eq_true.mp h w hw)⟩
/-! ===== END ===== -/

/-! ===== BEGIN new T[n][m]: the outer array a place, the inner ones among the pooled ===== -/
/-- f, but v at every address of l -/
def vr_up {α : Type} (f : Nat → α) (l : List Nat) (v : α) : Nat → α := fun a => if a ∈ l then v else f a
theorem vr_up_in {α : Type} {f : Nat → α} {l : List Nat} {v : α} {a : Nat} (h : a ∈ l) : vr_up f l v a = v := if_pos h
theorem vr_up_ne {α : Type} {f : Nat → α} {l : List Nat} {v : α} {a : Nat} (h : a ∉ l) : vr_up f l v a = f a := if_neg h
theorem vr_rows {L l : List Nat} {f : Nat → va_E} {e : va_E} (h : ∀ a, a ∈ l → a ∉ L) : va_pl L f ++ l.map (fun a => (a, e)) = va_pl (L ++ l) (vr_up f l e) := by
  unfold va_pl
  rw [List.map_append]
  congr 1
  · apply List.map_congr_left
    intro a ha
    rw [vr_up_ne (fun q => h a q ha)]
  · apply List.map_congr_left
    intro a ha
    rw [vr_up_in ha]
theorem vr_lay {X rows : va_W} {x : Nat × va_E} {pl : va_W} {D : va_G} {cl : List vw_C} {H : Heap} (hP : va_P D cl (((X ++ pl) ++ [x]) ++ rows) H) : va_P D cl ((X ++ [x]) ++ (pl ++ rows)) H := by
  rw [List.append_assoc (X ++ pl)] at hP
  have h := va_P.swap hP
  rw [← List.append_assoc X] at h
  have h2 := va_P.swap h
  rw [List.append_assoc (X ++ [x])] at h2
  exact h2
theorem vr_layD {X rows : va_W} {x : Nat × va_E} {pl : va_W} {A : Nat → Prop} (hD : va_D A (((X ++ pl) ++ [x]) ++ rows)) : va_D A ((X ++ [x]) ++ (pl ++ rows)) := by
  rw [List.append_assoc (X ++ pl)] at hD
  have h := va_D.swap hD
  rw [← List.append_assoc X] at h
  have h2 := va_D.swap h
  rw [List.append_assoc (X ++ [x])] at h2
  exact h2
theorem vr_outer (c : ClassId) (N h0 : Nat) : ∀ i : Nat, Jvm.Free.Multi.outerC c N h0 i = arrV c N (fun j => va_rf (if j < i then some (h0 + 1 + j) else none))
  | 0 => by
    show ({ cls := c, slots := Array.replicate N .null, vm := .none } : Cell) = _
    rw [arrV_new]
    refine congrArg (arrV c N) (funext fun j => ?_)
    simp [va_rf]
  | i + 1 => by
    show (Jvm.Free.Multi.outerC c N h0 i).setSlot i (.ref (h0 + 1 + i)) = _
    rw [vr_outer c N h0 i, arrV_store]
    refine congrArg (arrV c N) (funext fun j => ?_)
    by_cases e : j = i
    · subst e
      simp [updV, va_rf]
    · by_cases h : j < i
      · simp [updV, e, h, Nat.lt_succ_of_lt h]
      · simp [updV, e, h, show ¬ j < i + 1 by omega]
section VGM
variable {p : Program} {l : Launch} {e : Env} {R : Room} {s : State} {m : MethodId} {args : Array Value} {below : List Frame} {meth : Method} {c : Code} {H : Heap} {locs : List Loc} {cells slots : Nat} {Q : State → Prop}
variable {cc : ByteArray} {pc : Nat} {ls : Array Slot} {rest : List Value} {D : va_G} {cl : List vw_C} {A : Nat → Prop} {a : Nat} {tys : List (ClassId × FieldType)} {ws : va_W} {H0 : Heap}
theorem va_mna {X : va_W} {L : List Nat} {f : Nat → va_E} {cc : ByteArray} (hexec : p.tables.exec = Jvm.exec) (hb : c.code = cc) {own : String} {index : Nat} {ty : FieldType} {cy : ClassId} (hown : s.vm.findClass own = some m.cls) (hclink : (Cond.classLink own index ("[" ++ (FieldType.array ty).toString)).before args s = true) (hover : (Jvm.Cond.arrayOver (.array ty)).before args s = true) (harr : (Cond.arrayClass ty).before args s = true) (hcy : s.vm.findClass (FieldType.array ty).toString = some cy)
    (hK : va_K D cl tys s) (hP : va_P D cl (X ++ va_pl L f) H) (hD : va_D A (X ++ va_pl L f)) (hS : va_S A H0 H locs) (hA : ∀ q, H0.size ≤ q → A q) {n k : Int32} {N' K' : Nat} {z : vp_A} (hn : ¬ n < 0) (hk : ¬ k < 0) (hN : n.toNatClampNeg = N') (hM : k.toNatClampNeg = K')
    (hb1 : N' * 4 ≤ 536870912) (hb2 : K' * componentBytes ty ≤ 536870912) (hb3 : K' ≤ 536870912) (hdf : fits ty (defaultValue ty) = true) (hdd : (defaultValue ty).isDefault = true) (hcells : cells + (1 + N') ≤ R.cells) (hslots : slots + (N' + N' * K') ≤ R.slots) (hz : ∀ c : ClassId, Jvm.Free.Multi.innerC c K' (defaultValue ty) = vp_cell c z) (hdg : decode cc pc = .ok (.multianewarray index 2, 4))
    (kk : ∀ (q : Nat) (r : Nat → Nat) (cA : ClassId) (H1 : Heap), (∀ i j : Nat, i < N' → j < N' → r i = r j → i = j) → (∀ i : Nat, i < N' → r i ∉ L) → va_K D cl (tys ++ [(cA, .array ty)]) s →
      va_P D cl ((X ++ [(q, .inl (cA, N', .inr (.inr (.inr (.inr (fun i => if i < N' then some (r i) else none))))))]) ++ va_pl (L ++ (List.range N').map r) (vr_up f ((List.range N').map r) (.inl (cy, z)))) H1 → va_D A ((X ++ [(q, .inl (cA, N', .inr (.inr (.inr (.inr (fun i => if i < N' then some (r i) else none))))))]) ++ va_pl (L ++ (List.range N').map r) (vr_up f ((List.range N').map r) (.inl (cy, z)))) → va_S A H0 H1 locs →
      W p l e R s m args below meth c H1 locs (cells + 1 + N') (slots + N' + N' * K') Q (F0 m (pc + 4) ls (.ref q :: rest))) : W p l e R s m args below meth c H locs cells slots Q (F0 m pc ls (.int k :: .int n :: rest)) := by
  subst hN
  subst hM
  intro T hT Xs
  obtain ⟨vm₁, cA, comp, -, fA, fC, hO, -, X', step⟩ := Xs.multianewarray2F hexec hown hclink hover harr (g := F0 m pc ls (.int k :: .int n :: rest)) rfl (by rw [hb]; exact hdg) rfl hn hk hb1 hb2 hb3 hdf hdd hcells hslots
  have ec : some cy = some comp := hcy.symm.trans fC
  cases ec
  generalize hF : Jvm.Free.Multi.fill (T.setVm vm₁) cA cy n.toNatClampNeg k.toNatClampNeg (defaultValue ty) n.toNatClampNeg = F at X' step
  have hTh : (T.setVm vm₁).heap = H := hT
  obtain ⟨f1, f2, -, -⟩ := Jvm.Free.Multi.fill_facts (T.setVm vm₁) cA cy n.toNatClampNeg k.toNatClampNeg (defaultValue ty) n.toNatClampNeg
  rw [hF, hTh] at f1 f2
  have hold : ∀ x : Nat, x < H.size → F.heap[x]? = H[x]? := fun x hx => by
    have := Jvm.Free.Multi.fill_old (T.setVm vm₁) cA cy n.toNatClampNeg k.toNatClampNeg (defaultValue ty) (a := x) (by rw [hTh]; exact hx) n.toNatClampNeg
    rw [hF, hTh] at this
    exact this
  have hrow : ∀ j : Nat, j < n.toNatClampNeg → F.heap[H.size + 1 + j]? = some (vp_cell cy z) := fun j hj => by
    have := Jvm.Free.Multi.fill_inner (T.setVm vm₁) cA cy n.toNatClampNeg k.toNatClampNeg (defaultValue ty) n.toNatClampNeg j hj
    rw [hF, hTh, hz] at this
    exact this
  have hout : Jvm.Free.Multi.outerC cA n.toNatClampNeg H.size n.toNatClampNeg = vp_cell cA (n.toNatClampNeg, .inr (.inr (.inr (.inr (fun i => if i < n.toNatClampNeg then some (H.size + 1 + i) else none))))) := by
    rw [vp_cell_q]
    exact vr_outer cA n.toNatClampNeg H.size n.toNatClampNeg
  rw [hout] at f2
  have hlt : ∀ a, a ∈ L → a < H.size := fun a ha => by
    obtain ⟨k9, hk9⟩ := va_pl_get (X := X) (f := f) ha
    exact (hP k9 _ hk9).lt
  have hnl : ∀ i : Nat, i < n.toNatClampNeg → H.size + 1 + i ∉ L := fun i _ h => by
    have := hlt _ h
    omega
  have hnm : ∀ a, a ∈ (List.range n.toNatClampNeg).map (fun i => H.size + 1 + i) → a ∉ L := fun a ha h => by
    obtain ⟨i, -, rfl⟩ := List.mem_map.mp ha
    have := hlt _ h
    omega
  have hP0 : va_P D cl (X ++ va_pl L f) F.heap := hP.kept (fun k9 x hx => hold x.1 ((hP k9 x hx).lt))
  have hP1 : va_P D cl ((X ++ va_pl L f) ++ [(H.size, .inl (cA, n.toNatClampNeg, .inr (.inr (.inr (.inr (fun i => if i < n.toNatClampNeg then some (H.size + 1 + i) else none))))))]) F.heap := hP0.app (fun k9 x hx => by
    have h0 : k9 < 1 := (List.getElem?_eq_some_iff.mp hx).1
    rw [show k9 = 0 by omega] at hx
    cases hx
    exact f2)
  have hP2 : va_P D cl (((X ++ va_pl L f) ++ [(H.size, .inl (cA, n.toNatClampNeg, .inr (.inr (.inr (.inr (fun i => if i < n.toNatClampNeg then some (H.size + 1 + i) else none))))))]) ++ ((List.range n.toNatClampNeg).map (fun i => H.size + 1 + i)).map (fun a => (a, .inl (cy, z)))) F.heap := hP1.app (fun k9 x hx => by
    obtain ⟨a, ha, rfl⟩ := List.mem_map.mp (List.mem_of_getElem? hx)
    obtain ⟨i, hi, rfl⟩ := List.mem_map.mp ha
    exact hrow i (List.mem_range.mp hi))
  have hD2 : va_D A (((X ++ va_pl L f) ++ [(H.size, .inl (cA, n.toNatClampNeg, .inr (.inr (.inr (.inr (fun i => if i < n.toNatClampNeg then some (H.size + 1 + i) else none))))))]) ++ ((List.range n.toNatClampNeg).map (fun i => H.size + 1 + i)).map (fun a => (a, .inl (cy, z)))) := by
    have hD1 := hD.push (e := .inl (cA, n.toNatClampNeg, .inr (.inr (.inr (.inr (fun i => if i < n.toNatClampNeg then some (H.size + 1 + i) else none)))))) hP rfl (hA _ hS.1)
    generalize hW1 : (X ++ va_pl L f) ++ [(H.size, .inl (cA, n.toNatClampNeg, .inr (.inr (.inr (.inr (fun i => if i < n.toNatClampNeg then some (H.size + 1 + i) else none))))))] = W1 at hD1 hP1 ⊢
    have hle : ∀ (k9 : Nat) (x : Nat × va_E), W1[k9]? = some x → x.1 ≤ H.size := fun k9 x hx => by
      rw [← hW1] at hx
      by_cases hl : k9 < (X ++ va_pl L f).length
      · rw [List.getElem?_append_left hl] at hx
        exact Nat.le_of_lt ((hP k9 x hx).lt)
      · rw [List.getElem?_append_right (by omega)] at hx
        have h0 : k9 - (X ++ va_pl L f).length < 1 := (List.getElem?_eq_some_iff.mp hx).1
        rw [show k9 - (X ++ va_pl L f).length = 0 by omega] at hx
        cases hx
        exact Nat.le_refl _
    have hr : ∀ (k9 : Nat) (x : Nat × va_E), (((List.range n.toNatClampNeg).map (fun i => H.size + 1 + i)).map (fun a => ((a, .inl (cy, z)) : Nat × va_E)))[k9]? = some x → x.1 = H.size + 1 + k9 := fun k9 x hx => by
      rw [List.getElem?_map, List.getElem?_map] at hx
      by_cases h9 : k9 < n.toNatClampNeg
      · rw [List.getElem?_range h9] at hx
        cases hx
        rfl
      · have hn0 : (List.range n.toNatClampNeg)[k9]? = none := List.getElem?_eq_none (by rw [List.length_range]; omega)
        rw [hn0] at hx
        cases hx
    refine ⟨fun i j x y hi hj hxy => ?_, fun k9 x hx => ?_⟩
    · by_cases h1 : i < W1.length <;> by_cases h2 : j < W1.length
      · rw [List.getElem?_append_left h1] at hi
        rw [List.getElem?_append_left h2] at hj
        exact hD1.1 i j x y hi hj hxy
      · rw [List.getElem?_append_left h1] at hi
        rw [List.getElem?_append_right (by omega)] at hj
        have := hle _ _ hi
        have := hr _ _ hj
        omega
      · rw [List.getElem?_append_right (by omega)] at hi
        rw [List.getElem?_append_left h2] at hj
        have := hle _ _ hj
        have := hr _ _ hi
        omega
      · rw [List.getElem?_append_right (by omega)] at hi hj
        have := hr _ _ hi
        have := hr _ _ hj
        omega
    · by_cases h1 : k9 < W1.length
      · rw [List.getElem?_append_left h1] at hx
        exact hD1.2 k9 x hx
      · rw [List.getElem?_append_right (by omega)] at hx
        have := hr _ _ hx
        exact hA _ (by have := hS.1; omega)
  have hAr : ArrOfT s cA (.array ty) := fun N9 z9 => by
    obtain ⟨-, k9, hk9, cm9, hkk9⟩ := (hO 0 0 0).1
    exact ⟨(fun q hq => by cases hq), k9, hk9, cm9, hkk9⟩
  have hK2 : va_K D cl (tys ++ [(cA, .array ty)]) s := ⟨hK.1, fun k9 x hx => by
    by_cases hl : k9 < tys.length
    · rw [List.getElem?_append_left hl] at hx
      exact hK.2 k9 x hx
    · rw [List.getElem?_append_right (by omega)] at hx
      have h0 : k9 - tys.length < 1 := (List.getElem?_eq_some_iff.mp hx).1
      rw [show k9 - tys.length = 0 by omega] at hx
      cases hx
      exact ⟨hAr, fA⟩⟩
  obtain ⟨t, a1, b1⟩ := kk H.size (fun i => H.size + 1 + i) cA F.heap (fun i j _ _ h => by have h9 : H.size + 1 + i = H.size + 1 + j := h; omega) hnl hK2 (by rw [← vr_rows hnm]; exact vr_lay hP2) (by rw [← vr_rows hnm]; exact vr_layD hD2) ⟨by rw [f1]; have := hS.1; omega, fun x h1 h2 => (hold x (Nat.lt_of_lt_of_le h1 hS.1)).trans (hS.2.1 x h1 h2), hS.2.2⟩ F rfl X'
  refine ⟨t, step t ?_, b1⟩
  have e : T.heap.size = H.size := by rw [hT]
  rw [e]
  exact a1
end VGM
/-! ===== END ===== -/

/-! ===== BEGIN printed: names, fields, word lists, decode rows ===== -/
def RX0 : String := "ClothPlay$Asker"
def TX0 : u_T := fun k => match k with
  | 0 => ("ClothPlay$Asker", "scene", "LClothPlay$Scene;", true)
  | 1 => ("ClothPlay$Asker", "script", "LClothPlay$Script;", true)
  | 2 => ("ClothPlay$Asker", "words", "[I", true)
  | _ => ("ClothPlay$Asker", "stack", "[J", true)
def tyX0 : Nat → FieldType := fun k => match k with
  | 0 => .object "ClothPlay$Scene"
  | 1 => .object "ClothPlay$Script"
  | 2 => .array .int
  | _ => .array .long
abbrev wsX00 : List Cond := u_ws RX0 TX0 4
theorem nmX0 : ∀ a, a < 4 → ∀ b, b < 4 → a ≠ b → (TX0 a).2.1 ≠ (TX0 b).2.1 := by decide +kernel
theorem tyX0_ok : ∀ k, k < 4 → parseFieldDescriptor (TX0 k).2.2.1 = some (tyX0 k) := by decide +kernel
abbrev cX0_init : ByteArray := prog_2_method_1_code
def yX0_init : MethodName := ⟨RX0, "<init>", "(LClothPlay$Scene;)V"⟩
abbrev cX0_turnTo : ByteArray := prog_2_method_2_code
def yX0_turnTo : MethodName := ⟨RX0, "turnTo", "(IIII)V"⟩
abbrev cX0_tellLast : ByteArray := prog_2_method_3_code
def yX0_tellLast : MethodName := ⟨RX0, "tellLast", "(III)I"⟩
abbrev cX0_valueOf : ByteArray := prog_2_method_4_code
def yX0_valueOf : MethodName := ⟨RX0, "valueOf", "(II)J"⟩
abbrev cX0_join : ByteArray := prog_2_method_5_code
def yX0_join : MethodName := ⟨RX0, "join", "(IJJ)J"⟩
def RX1 : String := "ClothPlay$Hands"
def TX1 : u_T := fun k => match k with
  | 0 => ("ClothPlay$Hands", "scene", "LClothPlay$Scene;", true)
  | 1 => ("ClothPlay$Hands", "asker", "LClothPlay$Asker;", true)
  | 2 => ("ClothPlay$Hands", "can", "[J", true)
  | 3 => ("ClothPlay$Hands", "ons", "[I", true)
  | 4 => ("ClothPlay$Hands", "looked", "[Z", true)
  | 5 => ("ClothPlay$Hands", "apart", "[I", true)
  | 6 => ("ClothPlay$Hands", "ways", "[[I", true)
  | _ => ("ClothPlay$Hands", "doubleSticks", "I", false)
def tyX1 : Nat → FieldType := fun k => match k with
  | 0 => .object "ClothPlay$Scene"
  | 1 => .object "ClothPlay$Asker"
  | 2 => .array .long
  | 3 => .array .int
  | 4 => .array .boolean
  | 5 => .array .int
  | 6 => .array (.array .int)
  | _ => .int
abbrev wsX10 : List Cond := u_ws RX1 TX1 8
theorem nmX1 : ∀ a, a < 8 → ∀ b, b < 8 → a ≠ b → (TX1 a).2.1 ≠ (TX1 b).2.1 := by decide +kernel
theorem tyX1_ok : ∀ k, k < 8 → parseFieldDescriptor (TX1 k).2.2.1 = some (tyX1 k) := by decide +kernel
abbrev cX1_init : ByteArray := prog_3_method_1_code
def yX1_init : MethodName := ⟨RX1, "<init>", "(LClothPlay$Scene;LClothPlay$Asker;)V"⟩
abbrev cX1_forget : ByteArray := prog_3_method_2_code
def yX1_forget : MethodName := ⟨RX1, "forget", "()V"⟩
abbrev cX1_lookAt : ByteArray := prog_3_method_3_code
def yX1_lookAt : MethodName := ⟨RX1, "lookAt", "(I)V"⟩
abbrev cX1_canHold : ByteArray := prog_3_method_4_code
def yX1_canHold : MethodName := ⟨RX1, "canHold", "(III)Z"⟩
abbrev cX1_waysOfAll : ByteArray := prog_3_method_5_code
def yX1_waysOfAll : MethodName := ⟨RX1, "waysOfAll", "(II)I"⟩
abbrev cX1_firstBarred : ByteArray := prog_3_method_6_code
def yX1_firstBarred : MethodName := ⟨RX1, "firstBarred", "(I)I"⟩
abbrev cX1_coreAt : ByteArray := prog_3_method_7_code
def yX1_coreAt : MethodName := ⟨RX1, "coreAt", "(II)I"⟩
abbrev cX1_reached : ByteArray := prog_3_method_8_code
def yX1_reached : MethodName := ⟨RX1, "reached", "(II)J"⟩
abbrev cX1_spread : ByteArray := prog_3_method_9_code
def yX1_spread : MethodName := ⟨RX1, "spread", "(JJI)J"⟩
abbrev cX1_spreadWays : ByteArray := prog_3_method_10_code
def yX1_spreadWays : MethodName := ⟨RX1, "spreadWays", "(JI[I[I)V"⟩
abbrev cX1_farFrom : ByteArray := prog_3_method_11_code
def yX1_farFrom : MethodName := ⟨RX1, "farFrom", "(II)I"⟩
abbrev cX1_allowedFor : ByteArray := prog_3_method_12_code
def yX1_allowedFor : MethodName := ⟨RX1, "allowedFor", "(II)I"⟩
abbrev cX1_setsFor : ByteArray := prog_3_method_13_code
def yX1_setsFor : MethodName := ⟨RX1, "setsFor", "(II)J"⟩
abbrev cX1_handsSuffice : ByteArray := prog_3_method_14_code
def yX1_handsSuffice : MethodName := ⟨RX1, "handsSuffice", "(I)Z"⟩
abbrev cX1_isTogether : ByteArray := prog_3_method_15_code
def yX1_isTogether : MethodName := ⟨RX1, "isTogether", "(I)Z"⟩
def RX2 : String := "ClothPlay$Light"
def TX2 : u_T := fun k => match k with
  | _ => ("ClothPlay$Light", "scene", "LClothPlay$Scene;", true)
def tyX2 : Nat → FieldType := fun k => match k with
  | _ => .object "ClothPlay$Scene"
abbrev wsX20 : List Cond := u_ws RX2 TX2 1
theorem nmX2 : ∀ a, a < 1 → ∀ b, b < 1 → a ≠ b → (TX2 a).2.1 ≠ (TX2 b).2.1 := by decide +kernel
theorem tyX2_ok : ∀ k, k < 1 → parseFieldDescriptor (TX2 k).2.2.1 = some (tyX2 k) := by decide +kernel
abbrev cX2_init : ByteArray := prog_4_method_1_code
def yX2_init : MethodName := ⟨RX2, "<init>", "(LClothPlay$Scene;)V"⟩
abbrev cX2_project : ByteArray := prog_4_method_2_code
def yX2_project : MethodName := ⟨RX2, "project", "(III)I"⟩
abbrev cX2_rowOf : ByteArray := prog_4_method_3_code
def yX2_rowOf : MethodName := ⟨RX2, "rowOf", "(III)I"⟩
abbrev cX2_rowOfAll : ByteArray := prog_4_method_4_code
def yX2_rowOfAll : MethodName := ⟨RX2, "rowOfAll", "(II)I"⟩
abbrev cX2_cellsInBoth : ByteArray := prog_4_method_5_code
def yX2_cellsInBoth : MethodName := ⟨RX2, "cellsInBoth", "(III)I"⟩
abbrev cX2_hiddenCells : ByteArray := prog_4_method_6_code
def yX2_hiddenCells : MethodName := ⟨RX2, "hiddenCells", "(II)I"⟩
abbrev cX2_blur : ByteArray := prog_4_method_7_code
def yX2_blur : MethodName := ⟨RX2, "blur", "(II)I"⟩
def RX3 : String := "ClothPlay$Maker"
def TX3 : u_T := fun k => match k with
  | 0 => ("ClothPlay$Maker", "fewestFigures", "I", false)
  | 1 => ("ClothPlay$Maker", "scene", "LClothPlay$Scene;", true)
  | 2 => ("ClothPlay$Maker", "target", "LClothPlay$Target;", true)
  | 3 => ("ClothPlay$Maker", "prints", "[LClothPlay$Prints;", true)
  | 4 => ("ClothPlay$Maker", "gathered", "[Z", true)
  | 5 => ("ClothPlay$Maker", "chosen", "[I", true)
  | 6 => ("ClothPlay$Maker", "trying", "[I", true)
  | 7 => ("ClothPlay$Maker", "cast", "I", false)
  | 8 => ("ClothPlay$Maker", "looked", "Z", false)
  | 9 => ("ClothPlay$Maker", "ways", "J", false)
  | 10 => ("ClothPlay$Maker", "firstSet", "I", false)
  | 11 => ("ClothPlay$Maker", "second", "I", false)
  | 12 => ("ClothPlay$Maker", "third", "I", false)
  | _ => ("ClothPlay$Maker", "filling", "I", false)
def tyX3 : Nat → FieldType := fun k => match k with
  | 0 => .int
  | 1 => .object "ClothPlay$Scene"
  | 2 => .object "ClothPlay$Target"
  | 3 => .array (.object "ClothPlay$Prints")
  | 4 => .array .boolean
  | 5 => .array .int
  | 6 => .array .int
  | 7 => .int
  | 8 => .boolean
  | 9 => .long
  | 10 => .int
  | 11 => .int
  | 12 => .int
  | _ => .int
abbrev wsX30 : List Cond := u_ws RX3 TX3 14
theorem nmX3 : ∀ a, a < 14 → ∀ b, b < 14 → a ≠ b → (TX3 a).2.1 ≠ (TX3 b).2.1 := by decide +kernel
theorem tyX3_ok : ∀ k, k < 14 → parseFieldDescriptor (TX3 k).2.2.1 = some (tyX3 k) := by decide +kernel
abbrev cX3_init : ByteArray := prog_5_method_1_code
def yX3_init : MethodName := ⟨RX3, "<init>", "(LClothPlay$Scene;)V"⟩
abbrev cX3_forget : ByteArray := prog_5_method_2_code
def yX3_forget : MethodName := ⟨RX3, "forget", "()V"⟩
abbrev cX3_solve : ByteArray := prog_5_method_3_code
def yX3_solve : MethodName := ⟨RX3, "solve", "(I)V"⟩
abbrev cX3_wayCount : ByteArray := prog_5_method_4_code
def yX3_wayCount : MethodName := ⟨RX3, "wayCount", "()I"⟩
abbrev cX3_tellOf : ByteArray := prog_5_method_5_code
def yX3_tellOf : MethodName := ⟨RX3, "tellOf", "(II)I"⟩
abbrev cX3_gatherCast : ByteArray := prog_5_method_6_code
def yX3_gatherCast : MethodName := ⟨RX3, "gatherCast", "()V"⟩
abbrev cX3_trySet : ByteArray := prog_5_method_7_code
def yX3_trySet : MethodName := ⟨RX3, "trySet", "(I)V"⟩
abbrev cX3_isBetter : ByteArray := prog_5_method_8_code
def yX3_isBetter : MethodName := ⟨RX3, "isBetter", "(I)Z"⟩
abbrev cX3_choose : ByteArray := prog_5_method_9_code
def yX3_choose : MethodName := ⟨RX3, "choose", "(I)V"⟩
abbrev cX3_trySingle : ByteArray := prog_5_method_10_code
def yX3_trySingle : MethodName := ⟨RX3, "trySingle", "(ILClothPlay$Prints;)V"⟩
abbrev cX3_tryPair : ByteArray := prog_5_method_11_code
def yX3_tryPair : MethodName := ⟨RX3, "tryPair", "(ILClothPlay$Prints;LClothPlay$Prints;)V"⟩
abbrev cX3_tryTriple : ByteArray := prog_5_method_12_code
def yX3_tryTriple : MethodName := ⟨RX3, "tryTriple", "(ILClothPlay$Prints;LClothPlay$Prints;LClothPlay$Prints;)V"⟩
abbrev cX3_rarestCell : ByteArray := prog_5_method_13_code
def yX3_rarestCell : MethodName := ⟨RX3, "rarestCell", "(JLClothPlay$Prints;LClothPlay$Prints;)I"⟩
abbrev cX3_countBeside : ByteArray := prog_5_method_14_code
def yX3_countBeside : MethodName := ⟨RX3, "countBeside", "(LClothPlay$Prints;LClothPlay$Prints;JIZ)J"⟩
abbrev cX3_keepFirst : ByteArray := prog_5_method_15_code
def yX3_keepFirst : MethodName := ⟨RX3, "keepFirst", "(II)V"⟩
abbrev cX3_countFilling : ByteArray := prog_5_method_16_code
def yX3_countFilling : MethodName := ⟨RX3, "countFilling", "(LClothPlay$Prints;JJJI)J"⟩
def RX4 : String := "ClothPlay$Planner"
def TX4 : u_T := fun k => match k with
  | 0 => ("ClothPlay$Planner", "ready", "Z", false)
  | 1 => ("ClothPlay$Planner", "leastCost", "I", false)
  | 2 => ("ClothPlay$Planner", "leastWays", "I", false)
  | 3 => ("ClothPlay$Planner", "scene", "LClothPlay$Scene;", true)
  | 4 => ("ClothPlay$Planner", "asker", "LClothPlay$Asker;", true)
  | 5 => ("ClothPlay$Planner", "hands", "LClothPlay$Hands;", true)
  | 6 => ("ClothPlay$Planner", "best", "[[I", false)
  | 7 => ("ClothPlay$Planner", "work", "[[J", false)
  | 8 => ("ClothPlay$Planner", "found", "Z", false)
  | 9 => ("ClothPlay$Planner", "costs", "[I", true)
  | 10 => ("ClothPlay$Planner", "ons", "[I", true)
  | 11 => ("ClothPlay$Planner", "digits", "[I", true)
  | 12 => ("ClothPlay$Planner", "held", "[I", true)
  | 13 => ("ClothPlay$Planner", "now", "I", false)
  | _ => ("ClothPlay$Planner", "base", "I", false)
def tyX4 : Nat → FieldType := fun k => match k with
  | 0 => .boolean
  | 1 => .int
  | 2 => .int
  | 3 => .object "ClothPlay$Scene"
  | 4 => .object "ClothPlay$Asker"
  | 5 => .object "ClothPlay$Hands"
  | 6 => .array (.array .int)
  | 7 => .array (.array .long)
  | 8 => .boolean
  | 9 => .array .int
  | 10 => .array .int
  | 11 => .array .int
  | 12 => .array .int
  | 13 => .int
  | _ => .int
abbrev wsX40 : List Cond := u_ws RX4 TX4 15
theorem nmX4 : ∀ a, a < 15 → ∀ b, b < 15 → a ≠ b → (TX4 a).2.1 ≠ (TX4 b).2.1 := by decide +kernel
theorem tyX4_ok : ∀ k, k < 15 → parseFieldDescriptor (TX4 k).2.2.1 = some (tyX4 k) := by decide +kernel
abbrev cX4_init : ByteArray := prog_6_method_1_code
def yX4_init : MethodName := ⟨RX4, "<init>", "(LClothPlay$Scene;LClothPlay$Asker;LClothPlay$Hands;)V"⟩
abbrev cX4_findLeast : ByteArray := prog_6_method_2_code
def yX4_findLeast : MethodName := ⟨RX4, "findLeast", "()Z"⟩
abbrev cX4_holderAt : ByteArray := prog_6_method_3_code
def yX4_holderAt : MethodName := ⟨RX4, "holderAt", "(II)I"⟩
abbrev cX4_passesOf : ByteArray := prog_6_method_4_code
def yX4_passesOf : MethodName := ⟨RX4, "passesOf", "(I)I"⟩
abbrev cX4_holderOf : ByteArray := prog_6_method_5_code
def yX4_holderOf : MethodName := ⟨RX4, "holderOf", "(I)I"⟩
abbrev cX4_sizeOf : ByteArray := prog_6_method_6_code
def yX4_sizeOf : MethodName := ⟨RX4, "sizeOf", "(I)I"⟩
abbrev cX4_costAt : ByteArray := prog_6_method_7_code
def yX4_costAt : MethodName := ⟨RX4, "costAt", "(IIII)I"⟩
abbrev cX4_fillCosts : ByteArray := prog_6_method_8_code
def yX4_fillCosts : MethodName := ⟨RX4, "fillCosts", "()V"⟩
abbrev cX4_carryBack : ByteArray := prog_6_method_9_code
def yX4_carryBack : MethodName := ⟨RX4, "carryBack", "(I)V"⟩
abbrev cX4_mix : ByteArray := prog_6_method_10_code
def yX4_mix : MethodName := ⟨RX4, "mix", "(IIIII)V"⟩
abbrev cX4_either : ByteArray := prog_6_method_11_code
def yX4_either : MethodName := ⟨RX4, "either", "(JJ)J"⟩
abbrev cX4_keepHoldings : ByteArray := prog_6_method_12_code
def yX4_keepHoldings : MethodName := ⟨RX4, "keepHoldings", "(I)V"⟩
abbrev cX4_give : ByteArray := prog_6_method_13_code
def yX4_give : MethodName := ⟨RX4, "give", "(III)V"⟩
abbrev cX4_sumUp : ByteArray := prog_6_method_14_code
def yX4_sumUp : MethodName := ⟨RX4, "sumUp", "()V"⟩
abbrev cX4_followFirst : ByteArray := prog_6_method_15_code
def yX4_followFirst : MethodName := ⟨RX4, "followFirst", "()V"⟩
abbrev cX4_passTo : ByteArray := prog_6_method_16_code
def yX4_passTo : MethodName := ⟨RX4, "passTo", "(II)I"⟩
def RX5 : String := "ClothPlay$Prints"
def TX5 : u_T := fun k => match k with
  | 0 => ("ClothPlay$Prints", "amount", "I", false)
  | 1 => ("ClothPlay$Prints", "widest", "I", false)
  | 2 => ("ClothPlay$Prints", "union", "J", false)
  | 3 => ("ClothPlay$Prints", "masks", "[J", true)
  | 4 => ("ClothPlay$Prints", "places", "[I", true)
  | 5 => ("ClothPlay$Prints", "having", "[J", true)
  | 6 => ("ClothPlay$Prints", "havingCount", "[I", true)
  | 7 => ("ClothPlay$Prints", "firstWith", "[I", true)
  | _ => ("ClothPlay$Prints", "nextWith", "[I", true)
def tyX5 : Nat → FieldType := fun k => match k with
  | 0 => .int
  | 1 => .int
  | 2 => .long
  | 3 => .array .long
  | 4 => .array .int
  | 5 => .array .long
  | 6 => .array .int
  | 7 => .array .int
  | _ => .array .int
abbrev wsX50 : List Cond := u_ws RX5 TX5 9
theorem nmX5 : ∀ a, a < 9 → ∀ b, b < 9 → a ≠ b → (TX5 a).2.1 ≠ (TX5 b).2.1 := by decide +kernel
theorem tyX5_ok : ∀ k, k < 9 → parseFieldDescriptor (TX5 k).2.2.1 = some (tyX5 k) := by decide +kernel
abbrev cX5_init : ByteArray := prog_7_method_1_code
def yX5_init : MethodName := ⟨RX5, "<init>", "()V"⟩
abbrev cX5_gather : ByteArray := prog_7_method_2_code
def yX5_gather : MethodName := ⟨RX5, "gather", "(LClothPlay$Scene;ILClothPlay$Target;)V"⟩
abbrev cX5_staysWithin : ByteArray := prog_7_method_3_code
def yX5_staysWithin : MethodName := ⟨RX5, "staysWithin", "(LClothPlay$Scene;ILClothPlay$Target;III)Z"⟩
abbrev cX5_maskAt : ByteArray := prog_7_method_4_code
def yX5_maskAt : MethodName := ⟨RX5, "maskAt", "(LClothPlay$Scene;ILClothPlay$Target;III)J"⟩
abbrev cX5_add : ByteArray := prog_7_method_5_code
def yX5_add : MethodName := ⟨RX5, "add", "(JI)V"⟩
def RX6 : String := "ClothPlay$Reader"
def TX6 : u_T := fun k => match k with
  | 0 => ("ClothPlay$Reader", "script", "LClothPlay$Script;", true)
  | 1 => ("ClothPlay$Reader", "faultAt", "I", false)
  | 2 => ("ClothPlay$Reader", "bytes", "[I", true)
  | 3 => ("ClothPlay$Reader", "moves", "[I", true)
  | 4 => ("ClothPlay$Reader", "moveCount", "I", false)
  | 5 => ("ClothPlay$Reader", "length", "I", false)
  | 6 => ("ClothPlay$Reader", "token", "I", false)
  | 7 => ("ClothPlay$Reader", "start", "I", false)
  | 8 => ("ClothPlay$Reader", "stop", "I", false)
  | 9 => ("ClothPlay$Reader", "value", "I", false)
  | _ => ("ClothPlay$Reader", "parts", "I", false)
def tyX6 : Nat → FieldType := fun k => match k with
  | 0 => .object "ClothPlay$Script"
  | 1 => .int
  | 2 => .array .int
  | 3 => .array .int
  | 4 => .int
  | 5 => .int
  | 6 => .int
  | 7 => .int
  | 8 => .int
  | 9 => .int
  | _ => .int
abbrev wsX60 : List Cond := u_ws RX6 TX6 11
theorem nmX6 : ∀ a, a < 11 → ∀ b, b < 11 → a ≠ b → (TX6 a).2.1 ≠ (TX6 b).2.1 := by decide +kernel
theorem tyX6_ok : ∀ k, k < 11 → parseFieldDescriptor (TX6 k).2.2.1 = some (tyX6 k) := by decide +kernel
abbrev cX6_init : ByteArray := prog_8_method_1_code
def yX6_init : MethodName := ⟨RX6, "<init>", "()V"⟩
abbrev cX6_readText : ByteArray := prog_8_method_2_code
def yX6_readText : MethodName := ⟨RX6, "readText", "([II)Z"⟩
abbrev cX6_tellMoves : ByteArray := prog_8_method_3_code
def yX6_tellMoves : MethodName := ⟨RX6, "tellMoves", "(LClothPlay$Scene;)V"⟩
abbrev cX6_readClause : ByteArray := prog_8_method_4_code
def yX6_readClause : MethodName := ⟨RX6, "readClause", "()Z"⟩
abbrev cX6_readMove : ByteArray := prog_8_method_5_code
def yX6_readMove : MethodName := ⟨RX6, "readMove", "()Z"⟩
abbrev cX6_readLevel : ByteArray := prog_8_method_6_code
def yX6_readLevel : MethodName := ⟨RX6, "readLevel", "(II)Z"⟩
abbrev cX6_operationAt : ByteArray := prog_8_method_7_code
def yX6_operationAt : MethodName := ⟨RX6, "operationAt", "(I)I"⟩
abbrev cX6_readPlain : ByteArray := prog_8_method_8_code
def yX6_readPlain : MethodName := ⟨RX6, "readPlain", "(I)Z"⟩
abbrev cX6_readComparison : ByteArray := prog_8_method_9_code
def yX6_readComparison : MethodName := ⟨RX6, "readComparison", "(I)Z"⟩
abbrev cX6_readWithin : ByteArray := prog_8_method_10_code
def yX6_readWithin : MethodName := ⟨RX6, "readWithin", "(III)Z"⟩
abbrev cX6_readPart : ByteArray := prog_8_method_11_code
def yX6_readPart : MethodName := ⟨RX6, "readPart", "(I)Z"⟩
abbrev cX6_fail : ByteArray := prog_8_method_12_code
def yX6_fail : MethodName := ⟨RX6, "fail", "()Z"⟩
abbrev cX6_take : ByteArray := prog_8_method_13_code
def yX6_take : MethodName := ⟨RX6, "take", "(I)Z"⟩
abbrev cX6_takeNumber : ByteArray := prog_8_method_14_code
def yX6_takeNumber : MethodName := ⟨RX6, "takeNumber", "(III)Z"⟩
abbrev cX6_advance : ByteArray := prog_8_method_15_code
def yX6_advance : MethodName := ⟨RX6, "advance", "()V"⟩
abbrev cX6_wordBetween : ByteArray := prog_8_method_16_code
def yX6_wordBetween : MethodName := ⟨RX6, "wordBetween", "(II)I"⟩
def RX7 : String := "ClothPlay$Scene"
def TX7 : u_T := fun k => match k with
  | 0 => ("ClothPlay$Scene", "figures", "I", false)
  | 1 => ("ClothPlay$Scene", "outlines", "[I", true)
  | 2 => ("ClothPlay$Scene", "stickCount", "[I", true)
  | 3 => ("ClothPlay$Scene", "term", "[I", true)
  | 4 => ("ClothPlay$Scene", "x", "[I", true)
  | 5 => ("ClothPlay$Scene", "y", "[I", true)
  | 6 => ("ClothPlay$Scene", "deep", "[I", true)
  | 7 => ("ClothPlay$Scene", "told", "[I", true)
  | _ => ("ClothPlay$Scene", "script", "LClothPlay$Script;", true)
def tyX7 : Nat → FieldType := fun k => match k with
  | 0 => .int
  | 1 => .array .int
  | 2 => .array .int
  | 3 => .array .int
  | 4 => .array .int
  | 5 => .array .int
  | 6 => .array .int
  | 7 => .array .int
  | _ => .object "ClothPlay$Script"
abbrev wsX70 : List Cond := u_ws RX7 TX7 9
theorem nmX7 : ∀ a, a < 9 → ∀ b, b < 9 → a ≠ b → (TX7 a).2.1 ≠ (TX7 b).2.1 := by decide +kernel
theorem tyX7_ok : ∀ k, k < 9 → parseFieldDescriptor (TX7 k).2.2.1 = some (tyX7 k) := by decide +kernel
abbrev cX7_init : ByteArray := prog_9_method_1_code
def yX7_init : MethodName := ⟨RX7, "<init>", "()V"⟩
abbrev cX7_has : ByteArray := prog_9_method_2_code
def yX7_has : MethodName := ⟨RX7, "has", "(I)Z"⟩
abbrev cX7_isOn : ByteArray := prog_9_method_3_code
def yX7_isOn : MethodName := ⟨RX7, "isOn", "(II)Z"⟩
abbrev cX7_depth : ByteArray := prog_9_method_4_code
def yX7_depth : MethodName := ⟨RX7, "depth", "(II)I"⟩
abbrev cX7_onBits : ByteArray := prog_9_method_5_code
def yX7_onBits : MethodName := ⟨RX7, "onBits", "(I)I"⟩
abbrev cX7_put : ByteArray := prog_9_method_6_code
def yX7_put : MethodName := ⟨RX7, "put", "(IIIII)V"⟩
abbrev cX7_stays : ByteArray := prog_9_method_7_code
def yX7_stays : MethodName := ⟨RX7, "stays", "(II)Z"⟩
abbrev cX7_toldCells : ByteArray := prog_9_method_8_code
def yX7_toldCells : MethodName := ⟨RX7, "toldCells", "()I"⟩
abbrev cX7_takeFrom : ByteArray := prog_9_method_9_code
def yX7_takeFrom : MethodName := ⟨RX7, "takeFrom", "(LClothPlay$Scene;)V"⟩
def RX8 : String := "ClothPlay$Script"
def TX8 : u_T := fun k => match k with
  | 0 => ("ClothPlay$Script", "clauses", "I", false)
  | 1 => ("ClothPlay$Script", "laws", "I", false)
  | 2 => ("ClothPlay$Script", "used", "I", false)
  | 3 => ("ClothPlay$Script", "heads", "[I", true)
  | 4 => ("ClothPlay$Script", "sumFrom", "[I", true)
  | 5 => ("ClothPlay$Script", "testFrom", "[I", true)
  | 6 => ("ClothPlay$Script", "lawEnd", "[I", true)
  | _ => ("ClothPlay$Script", "steps", "[I", true)
def tyX8 : Nat → FieldType := fun k => match k with
  | 0 => .int
  | 1 => .int
  | 2 => .int
  | 3 => .array .int
  | 4 => .array .int
  | 5 => .array .int
  | 6 => .array .int
  | _ => .array .int
abbrev wsX80 : List Cond := u_ws RX8 TX8 8
theorem nmX8 : ∀ a, a < 8 → ∀ b, b < 8 → a ≠ b → (TX8 a).2.1 ≠ (TX8 b).2.1 := by decide +kernel
theorem tyX8_ok : ∀ k, k < 8 → parseFieldDescriptor (TX8 k).2.2.1 = some (tyX8 k) := by decide +kernel
abbrev cX8_init : ByteArray := prog_10_method_1_code
def yX8_init : MethodName := ⟨RX8, "<init>", "()V"⟩
abbrev cX8_clear : ByteArray := prog_10_method_2_code
def yX8_clear : MethodName := ⟨RX8, "clear", "()V"⟩
abbrev cX8_add : ByteArray := prog_10_method_3_code
def yX8_add : MethodName := ⟨RX8, "add", "(II)V"⟩
abbrev cX8_jumpToHere : ByteArray := prog_10_method_4_code
def yX8_jumpToHere : MethodName := ⟨RX8, "jumpToHere", "(I)V"⟩
abbrev cX8_startLaw : ByteArray := prog_10_method_5_code
def yX8_startLaw : MethodName := ⟨RX8, "startLaw", "(I)V"⟩
abbrev cX8_startTest : ByteArray := prog_10_method_6_code
def yX8_startTest : MethodName := ⟨RX8, "startTest", "()V"⟩
abbrev cX8_endLaw : ByteArray := prog_10_method_7_code
def yX8_endLaw : MethodName := ⟨RX8, "endLaw", "()V"⟩
abbrev cX8_takeFrom : ByteArray := prog_10_method_8_code
def yX8_takeFrom : MethodName := ⟨RX8, "takeFrom", "(LClothPlay$Script;)V"⟩
def RX9 : String := "ClothPlay$Target"
def TX9 : u_T := fun k => match k with
  | 0 => ("ClothPlay$Target", "cells", "I", false)
  | 1 => ("ClothPlay$Target", "full", "J", false)
  | 2 => ("ClothPlay$Target", "deepest", "I", false)
  | 3 => ("ClothPlay$Target", "columns", "[I", true)
  | 4 => ("ClothPlay$Target", "rows", "[I", true)
  | 5 => ("ClothPlay$Target", "planeColumn", "[[I", true)
  | 6 => ("ClothPlay$Target", "planeRow", "[[I", true)
  | _ => ("ClothPlay$Target", "spill", "[[I", true)
def tyX9 : Nat → FieldType := fun k => match k with
  | 0 => .int
  | 1 => .long
  | 2 => .int
  | 3 => .array .int
  | 4 => .array .int
  | 5 => .array (.array .int)
  | 6 => .array (.array .int)
  | _ => .array (.array .int)
abbrev wsX90 : List Cond := u_ws RX9 TX9 8
theorem nmX9 : ∀ a, a < 8 → ∀ b, b < 8 → a ≠ b → (TX9 a).2.1 ≠ (TX9 b).2.1 := by decide +kernel
theorem tyX9_ok : ∀ k, k < 8 → parseFieldDescriptor (TX9 k).2.2.1 = some (tyX9 k) := by decide +kernel
abbrev cX9_init : ByteArray := prog_11_method_1_code
def yX9_init : MethodName := ⟨RX9, "<init>", "()V"⟩
abbrev cX9_lookAt : ByteArray := prog_11_method_2_code
def yX9_lookAt : MethodName := ⟨RX9, "lookAt", "(LClothPlay$Scene;)V"⟩
abbrev cX9_lookFrom : ByteArray := prog_11_method_3_code
def yX9_lookFrom : MethodName := ⟨RX9, "lookFrom", "(LClothPlay$Scene;I)V"⟩
def RX10 : String := "ClothPlay"
def TX10 : u_T := fun k => match k with
  | 0 => ("ClothPlay", "scene", "LClothPlay$Scene;", true)
  | 1 => ("ClothPlay", "images", "[LClothPlay$Scene;", true)
  | 2 => ("ClothPlay", "tape", "[I", true)
  | 3 => ("ClothPlay", "reader", "LClothPlay$Reader;", true)
  | 4 => ("ClothPlay", "light", "LClothPlay$Light;", true)
  | 5 => ("ClothPlay", "asker", "LClothPlay$Asker;", true)
  | 6 => ("ClothPlay", "hands", "LClothPlay$Hands;", true)
  | 7 => ("ClothPlay", "planner", "LClothPlay$Planner;", true)
  | 8 => ("ClothPlay", "maker", "LClothPlay$Maker;", true)
  | 9 => ("ClothPlay", "slips", "[I", true)
  | 10 => ("ClothPlay", "refusals", "[I", true)
  | 11 => ("ClothPlay", "taped", "I", false)
  | 12 => ("ClothPlay", "tornBytes", "I", false)
  | 13 => ("ClothPlay", "faultPlace", "I", false)
  | 14 => ("ClothPlay", "lastStatus", "I", false)
  | _ => ("ClothPlay", "shown", "Z", false)
def tyX10 : Nat → FieldType := fun k => match k with
  | 0 => .object "ClothPlay$Scene"
  | 1 => .array (.object "ClothPlay$Scene")
  | 2 => .array .int
  | 3 => .object "ClothPlay$Reader"
  | 4 => .object "ClothPlay$Light"
  | 5 => .object "ClothPlay$Asker"
  | 6 => .object "ClothPlay$Hands"
  | 7 => .object "ClothPlay$Planner"
  | 8 => .object "ClothPlay$Maker"
  | 9 => .array .int
  | 10 => .array .int
  | 11 => .int
  | 12 => .int
  | 13 => .int
  | 14 => .int
  | _ => .boolean
abbrev wsX100 : List Cond := u_ws RX10 TX10 16
theorem nmX10 : ∀ a, a < 16 → ∀ b, b < 16 → a ≠ b → (TX10 a).2.1 ≠ (TX10 b).2.1 := by decide +kernel
theorem tyX10_ok : ∀ k, k < 16 → parseFieldDescriptor (TX10 k).2.2.1 = some (tyX10 k) := by decide +kernel
abbrev cX10_init : ByteArray := prog_1_method_1_code
def yX10_init : MethodName := ⟨RX10, "<init>", "()V"⟩
abbrev cX10_figure : ByteArray := prog_1_method_2_code
def yX10_figure : MethodName := ⟨RX10, "figure", "(I)I"⟩
abbrev cX10_sticks : ByteArray := prog_1_method_3_code
def yX10_sticks : MethodName := ⟨RX10, "sticks", "(II)I"⟩
abbrev cX10_terms : ByteArray := prog_1_method_4_code
def yX10_terms : MethodName := ⟨RX10, "terms", "(II)I"⟩
abbrev cX10_on : ByteArray := prog_1_method_5_code
def yX10_on : MethodName := ⟨RX10, "on", "(IIIII)I"⟩
abbrev cX10_off : ByteArray := prog_1_method_6_code
def yX10_off : MethodName := ⟨RX10, "off", "(II)I"⟩
abbrev cX10_of : ByteArray := prog_1_method_7_code
def yX10_of : MethodName := ⟨RX10, "of", "(III)I"⟩
abbrev cX10_feed : ByteArray := prog_1_method_8_code
def yX10_feed : MethodName := ⟨RX10, "feed", "(IIIII)I"⟩
abbrev cX10_end : ByteArray := prog_1_method_9_code
def yX10_end : MethodName := ⟨RX10, "end", "(I)I"⟩
abbrev cX10_row : ByteArray := prog_1_method_10_code
def yX10_row : MethodName := ⟨RX10, "row", "(I)I"⟩
abbrev cX10_torn : ByteArray := prog_1_method_11_code
def yX10_torn : MethodName := ⟨RX10, "torn", "()I"⟩
abbrev cX10_outline : ByteArray := prog_1_method_12_code
def yX10_outline : MethodName := ⟨RX10, "outline", "(II)I"⟩
abbrev cX10_play : ByteArray := prog_1_method_13_code
def yX10_play : MethodName := ⟨RX10, "play", "()I"⟩
abbrev cX10_fault : ByteArray := prog_1_method_14_code
def yX10_fault : MethodName := ⟨RX10, "fault", "()I"⟩
abbrev cX10_shadow : ByteArray := prog_1_method_15_code
def yX10_shadow : MethodName := ⟨RX10, "shadow", "(III)I"⟩
abbrev cX10_seen : ByteArray := prog_1_method_16_code
def yX10_seen : MethodName := ⟨RX10, "seen", "(III)I"⟩
abbrev cX10_common : ByteArray := prog_1_method_17_code
def yX10_common : MethodName := ⟨RX10, "common", "(III)I"⟩
abbrev cX10_holds : ByteArray := prog_1_method_18_code
def yX10_holds : MethodName := ⟨RX10, "holds", "(III)I"⟩
abbrev cX10_holdings : ByteArray := prog_1_method_19_code
def yX10_holdings : MethodName := ⟨RX10, "holdings", "(I)I"⟩
abbrev cX10_least : ByteArray := prog_1_method_20_code
def yX10_least : MethodName := ⟨RX10, "least", "(I)I"⟩
abbrev cX10_holder : ByteArray := prog_1_method_21_code
def yX10_holder : MethodName := ⟨RX10, "holder", "(II)I"⟩
abbrev cX10_passed : ByteArray := prog_1_method_22_code
def yX10_passed : MethodName := ⟨RX10, "passed", "(I)I"⟩
abbrev cX10_fewest : ByteArray := prog_1_method_23_code
def yX10_fewest : MethodName := ⟨RX10, "fewest", "()I"⟩
abbrev cX10_barred : ByteArray := prog_1_method_24_code
def yX10_barred : MethodName := ⟨RX10, "barred", "(I)I"⟩
abbrev cX10_made : ByteArray := prog_1_method_25_code
def yX10_made : MethodName := ⟨RX10, "made", "(II)I"⟩
abbrev cX10_who : ByteArray := prog_1_method_26_code
def yX10_who : MethodName := ⟨RX10, "who", "(III)I"⟩
abbrev cX10_sheet : ByteArray := prog_1_method_27_code
def yX10_sheet : MethodName := ⟨RX10, "sheet", "(I)I"⟩
abbrev cX10_copy : ByteArray := prog_1_method_28_code
def yX10_copy : MethodName := ⟨RX10, "copy", "(I)I"⟩
abbrev cX10_show : ByteArray := prog_1_method_29_code
def yX10_show : MethodName := ⟨RX10, "show", "(I)I"⟩
abbrev cX10_slipped : ByteArray := prog_1_method_30_code
def yX10_slipped : MethodName := ⟨RX10, "slipped", "(I)I"⟩
abbrev cX10_image : ByteArray := prog_1_method_31_code
def yX10_image : MethodName := ⟨RX10, "image", "(I)I"⟩
abbrev cX10_back : ByteArray := prog_1_method_32_code
def yX10_back : MethodName := ⟨RX10, "back", "(I)I"⟩
abbrev cX10_count : ByteArray := prog_1_method_33_code
def yX10_count : MethodName := ⟨RX10, "count", "(I)I"⟩
abbrev cX10_status : ByteArray := prog_1_method_34_code
def yX10_status : MethodName := ⟨RX10, "status", "()I"⟩
abbrev cX10_isBeat : ByteArray := prog_1_method_35_code
def yX10_isBeat : MethodName := ⟨RX10, "isBeat", "(I)Z"⟩
abbrev cX10_refuse : ByteArray := prog_1_method_36_code
def yX10_refuse : MethodName := ⟨RX10, "refuse", "(I)I"⟩
abbrev cX10_accept : ByteArray := prog_1_method_37_code
def yX10_accept : MethodName := ⟨RX10, "accept", "(I)I"⟩
abbrev cX10_changeHands : ByteArray := prog_1_method_38_code
def yX10_changeHands : MethodName := ⟨RX10, "changeHands", "()V"⟩
abbrev cX10_changeCast : ByteArray := prog_1_method_39_code
def yX10_changeCast : MethodName := ⟨RX10, "changeCast", "()V"⟩
abbrev cX10_canBeAsked : ByteArray := prog_1_method_40_code
def yX10_canBeAsked : MethodName := ⟨RX10, "canBeAsked", "(I)Z"⟩
abbrev cX10_writeWord : ByteArray := prog_1_method_41_code
def yX10_writeWord : MethodName := ⟨RX10, "writeWord", "(I)V"⟩
abbrev cX10_takeOutline : ByteArray := prog_1_method_42_code
def yX10_takeOutline : MethodName := ⟨RX10, "takeOutline", "(I)I"⟩
abbrev cX10_takeSheet : ByteArray := prog_1_method_43_code
def yX10_takeSheet : MethodName := ⟨RX10, "takeSheet", "()I"⟩
abbrev cX10_countBeats : ByteArray := prog_1_method_44_code
def yX10_countBeats : MethodName := ⟨RX10, "countBeats", "(I)I"⟩
def RX11 : String := "ClothPlayModel"
def TX11 : u_T := fun k => match k with
  | 0 => ("ClothPlayModel", "thrown", "I", false)
  | 1 => ("ClothPlayModel", "status", "I", false)
  | 2 => ("ClothPlayModel", "refusals", "[I", true)
  | 3 => ("ClothPlayModel", "row", "[I", true)
  | 4 => ("ClothPlayModel", "images", "[I", true)
  | 5 => ("ClothPlayModel", "isKept", "[Z", true)
  | 6 => ("ClothPlayModel", "torn", "I", false)
  | 7 => ("ClothPlayModel", "tape", "[I", true)
  | 8 => ("ClothPlayModel", "taped", "I", false)
  | 9 => ("ClothPlayModel", "from", "I", false)
  | 10 => ("ClothPlayModel", "to", "I", false)
  | 11 => ("ClothPlayModel", "sort", "I", false)
  | 12 => ("ClothPlayModel", "worth", "J", false)
  | 13 => ("ClothPlayModel", "fault", "I", false)
  | 14 => ("ClothPlayModel", "bad", "Z", false)
  | 15 => ("ClothPlayModel", "nClauses", "I", false)
  | 16 => ("ClothPlayModel", "nClause", "[I", true)
  | 17 => ("ClothPlayModel", "nCode", "I", false)
  | 18 => ("ClothPlayModel", "nOp", "[I", true)
  | 19 => ("ClothPlayModel", "nArg", "[I", true)
  | 20 => ("ClothPlayModel", "nLeaves", "I", false)
  | 21 => ("ClothPlayModel", "pile", "[I", true)
  | 22 => ("ClothPlayModel", "pileAt", "[I", true)
  | 23 => ("ClothPlayModel", "piled", "I", false)
  | 24 => ("ClothPlayModel", "opened", "I", false)
  | 25 => ("ClothPlayModel", "words", "[J", true)
  | 26 => ("ClothPlayModel", "acts", "[I", true)
  | 27 => ("ClothPlayModel", "nActs", "I", false)
  | 28 => ("ClothPlayModel", "clauses", "I", false)
  | 29 => ("ClothPlayModel", "set", "[J", true)
  | 30 => ("ClothPlayModel", "rest", "[J", true)
  | 31 => ("ClothPlayModel", "broken", "Z", false)
  | 32 => ("ClothPlayModel", "value", "J", false)
  | 33 => ("ClothPlayModel", "sum", "J", false)
  | 34 => ("ClothPlayModel", "lawMany", "I", false)
  | 35 => ("ClothPlayModel", "can", "[Z", true)
  | 36 => ("ClothPlayModel", "isFound", "Z", false)
  | 37 => ("ClothPlayModel", "costs", "[I", true)
  | 38 => ("ClothPlayModel", "ways", "[I", true)
  | 39 => ("ClothPlayModel", "cost", "[I", true)
  | 40 => ("ClothPlayModel", "way", "[I", true)
  | 41 => ("ClothPlayModel", "nextCost", "[I", true)
  | 42 => ("ClothPlayModel", "nextWay", "[I", true)
  | 43 => ("ClothPlayModel", "passes", "[I", true)
  | 44 => ("ClothPlayModel", "leastCost", "I", false)
  | 45 => ("ClothPlayModel", "leastWays", "I", false)
  | 46 => ("ClothPlayModel", "holders", "[I", true)
  | 47 => ("ClothPlayModel", "cellRow", "[I", true)
  | 48 => ("ClothPlayModel", "cellColumn", "[I", true)
  | 49 => ("ClothPlayModel", "cells", "I", false)
  | 50 => ("ClothPlayModel", "masks", "[J", true)
  | 51 => ("ClothPlayModel", "places", "[I", true)
  | 52 => ("ClothPlayModel", "many", "[I", true)
  | 53 => ("ClothPlayModel", "columns", "[I", true)
  | 54 => ("ClothPlayModel", "rows", "[I", true)
  | 55 => ("ClothPlayModel", "fewestMade", "I", false)
  | 56 => ("ClothPlayModel", "firstSet", "I", false)
  | 57 => ("ClothPlayModel", "firstOf", "[I", true)
  | 58 => ("ClothPlayModel", "madeWays", "J", false)
  | 59 => ("ClothPlayModel", "trio", "[I", true)
  | 60 => ("ClothPlayModel", "slips", "[I", true)
  | _ => ("ClothPlayModel", "isShown", "Z", false)
def tyX11 : Nat → FieldType := fun k => match k with
  | 0 => .int
  | 1 => .int
  | 2 => .array .int
  | 3 => .array .int
  | 4 => .array .int
  | 5 => .array .boolean
  | 6 => .int
  | 7 => .array .int
  | 8 => .int
  | 9 => .int
  | 10 => .int
  | 11 => .int
  | 12 => .long
  | 13 => .int
  | 14 => .boolean
  | 15 => .int
  | 16 => .array .int
  | 17 => .int
  | 18 => .array .int
  | 19 => .array .int
  | 20 => .int
  | 21 => .array .int
  | 22 => .array .int
  | 23 => .int
  | 24 => .int
  | 25 => .array .long
  | 26 => .array .int
  | 27 => .int
  | 28 => .int
  | 29 => .array .long
  | 30 => .array .long
  | 31 => .boolean
  | 32 => .long
  | 33 => .long
  | 34 => .int
  | 35 => .array .boolean
  | 36 => .boolean
  | 37 => .array .int
  | 38 => .array .int
  | 39 => .array .int
  | 40 => .array .int
  | 41 => .array .int
  | 42 => .array .int
  | 43 => .array .int
  | 44 => .int
  | 45 => .int
  | 46 => .array .int
  | 47 => .array .int
  | 48 => .array .int
  | 49 => .int
  | 50 => .array .long
  | 51 => .array .int
  | 52 => .array .int
  | 53 => .array .int
  | 54 => .array .int
  | 55 => .int
  | 56 => .int
  | 57 => .array .int
  | 58 => .long
  | 59 => .array .int
  | 60 => .array .int
  | _ => .boolean
abbrev wsX110 : List Cond := u_ws RX11 TX11 62
theorem nmX11 : ∀ a, a < 62 → ∀ b, b < 62 → a ≠ b → (TX11 a).2.1 ≠ (TX11 b).2.1 := by decide +kernel
theorem tyX11_ok : ∀ k, k < 62 → parseFieldDescriptor (TX11 k).2.2.1 = some (tyX11 k) := by decide +kernel
abbrev cX11_init : ByteArray := prog_13_method_1_code
def yX11_init : MethodName := ⟨RX11, "<init>", "()V"⟩
abbrev cX11_in : ByteArray := prog_13_method_3_code
def yX11_in : MethodName := ⟨RX11, "in", "(JJJ)Z"⟩
abbrev cX11_is : ByteArray := prog_13_method_4_code
def yX11_is : MethodName := ⟨RX11, "is", "(II)Z"⟩
abbrev cX11_tell : ByteArray := prog_13_method_5_code
def yX11_tell : MethodName := ⟨RX11, "tell", "(I)I"⟩
abbrev cX11_was : ByteArray := prog_13_method_6_code
def yX11_was : MethodName := ⟨RX11, "was", "(I)I"⟩
abbrev cX11_change : ByteArray := prog_13_method_7_code
def yX11_change : MethodName := ⟨RX11, "change", "(II)I"⟩
abbrev cX11_image : ByteArray := prog_13_method_8_code
def yX11_image : MethodName := ⟨RX11, "image", "(I)I"⟩
abbrev cX11_back : ByteArray := prog_13_method_9_code
def yX11_back : MethodName := ⟨RX11, "back", "(I)I"⟩
abbrev cX11_isFigure : ByteArray := prog_13_method_10_code
def yX11_isFigure : MethodName := ⟨RX11, "isFigure", "(I)Z"⟩
abbrev cX11_isBeat : ByteArray := prog_13_method_11_code
def yX11_isBeat : MethodName := ⟨RX11, "isBeat", "(I)Z"⟩
abbrev cX11_term : ByteArray := prog_13_method_12_code
def yX11_term : MethodName := ⟨RX11, "term", "(I)I"⟩
abbrev cX11_placeOf : ByteArray := prog_13_method_13_code
def yX11_placeOf : MethodName := ⟨RX11, "placeOf", "(III)I"⟩
abbrev cX11_isOn : ByteArray := prog_13_method_14_code
def yX11_isOn : MethodName := ⟨RX11, "isOn", "(II)Z"⟩
abbrev cX11_deepOf : ByteArray := prog_13_method_15_code
def yX11_deepOf : MethodName := ⟨RX11, "deepOf", "(II)I"⟩
abbrev cX11_figure : ByteArray := prog_13_method_16_code
def yX11_figure : MethodName := ⟨RX11, "figure", "(I)I"⟩
abbrev cX11_sticks : ByteArray := prog_13_method_17_code
def yX11_sticks : MethodName := ⟨RX11, "sticks", "(II)I"⟩
abbrev cX11_isTerm : ByteArray := prog_13_method_18_code
def yX11_isTerm : MethodName := ⟨RX11, "isTerm", "(II)Z"⟩
abbrev cX11_terms : ByteArray := prog_13_method_19_code
def yX11_terms : MethodName := ⟨RX11, "terms", "(II)I"⟩
abbrev cX11_put : ByteArray := prog_13_method_20_code
def yX11_put : MethodName := ⟨RX11, "put", "(IIIIII)V"⟩
abbrev cX11_on : ByteArray := prog_13_method_21_code
def yX11_on : MethodName := ⟨RX11, "on", "(IIIII)I"⟩
abbrev cX11_off : ByteArray := prog_13_method_22_code
def yX11_off : MethodName := ⟨RX11, "off", "(II)I"⟩
abbrev cX11_of : ByteArray := prog_13_method_23_code
def yX11_of : MethodName := ⟨RX11, "of", "(III)I"⟩
abbrev cX11_bits : ByteArray := prog_13_method_24_code
def yX11_bits : MethodName := ⟨RX11, "bits", "(I)I"⟩
abbrev cX11_row : ByteArray := prog_13_method_25_code
def yX11_row : MethodName := ⟨RX11, "row", "(I)I"⟩
abbrev cX11_torn : ByteArray := prog_13_method_26_code
def yX11_torn : MethodName := ⟨RX11, "torn", "()I"⟩
abbrev cX11_outline : ByteArray := prog_13_method_27_code
def yX11_outline : MethodName := ⟨RX11, "outline", "(II)I"⟩
abbrev cX11_sheet : ByteArray := prog_13_method_28_code
def yX11_sheet : MethodName := ⟨RX11, "sheet", "(I)I"⟩
abbrev cX11_four : ByteArray := prog_13_method_29_code
def yX11_four : MethodName := ⟨RX11, "four", "(I)V"⟩
abbrev cX11_feed : ByteArray := prog_13_method_30_code
def yX11_feed : MethodName := ⟨RX11, "feed", "(IIIII)I"⟩
abbrev cX11_end : ByteArray := prog_13_method_31_code
def yX11_end : MethodName := ⟨RX11, "end", "(I)I"⟩
abbrev cX11_isSmall : ByteArray := prog_13_method_32_code
def yX11_isSmall : MethodName := ⟨RX11, "isSmall", "(I)Z"⟩
abbrev cX11_isDigit : ByteArray := prog_13_method_33_code
def yX11_isDigit : MethodName := ⟨RX11, "isDigit", "(I)Z"⟩
abbrev cX11_begin : ByteArray := prog_13_method_34_code
def yX11_begin : MethodName := ⟨RX11, "begin", "()V"⟩
abbrev cX11_next : ByteArray := prog_13_method_35_code
def yX11_next : MethodName := ⟨RX11, "next", "()V"⟩
abbrev cX11_isWord : ByteArray := prog_13_method_36_code
def yX11_isWord : MethodName := ⟨RX11, "isWord", "(J)Z"⟩
abbrev cX11_isSign : ByteArray := prog_13_method_37_code
def yX11_isSign : MethodName := ⟨RX11, "isSign", "(I)Z"⟩
abbrev cX11_must : ByteArray := prog_13_method_38_code
def yX11_must : MethodName := ⟨RX11, "must", "(Z)V"⟩
abbrev cX11_number : ByteArray := prog_13_method_39_code
def yX11_number : MethodName := ⟨RX11, "number", "(JJ)I"⟩
abbrev cX11_fault : ByteArray := prog_13_method_40_code
def yX11_fault : MethodName := ⟨RX11, "fault", "()I"⟩
abbrev cX11_emit : ByteArray := prog_13_method_41_code
def yX11_emit : MethodName := ⟨RX11, "emit", "(II)V"⟩
abbrev cX11_push : ByteArray := prog_13_method_42_code
def yX11_push : MethodName := ⟨RX11, "push", "(II)V"⟩
abbrev cX11_binds : ByteArray := prog_13_method_43_code
def yX11_binds : MethodName := ⟨RX11, "binds", "(I)I"⟩
abbrev cX11_settle : ByteArray := prog_13_method_44_code
def yX11_settle : MethodName := ⟨RX11, "settle", "(I)V"⟩
abbrev cX11_inner : ByteArray := prog_13_method_45_code
def yX11_inner : MethodName := ⟨RX11, "inner", "()I"⟩
abbrev cX11_isCompared : ByteArray := prog_13_method_46_code
def yX11_isCompared : MethodName := ⟨RX11, "isCompared", "()Z"⟩
abbrev cX11_partAt : ByteArray := prog_13_method_47_code
def yX11_partAt : MethodName := ⟨RX11, "partAt", "()I"⟩
abbrev cX11_openBracket : ByteArray := prog_13_method_48_code
def yX11_openBracket : MethodName := ⟨RX11, "openBracket", "(I)V"⟩
abbrev cX11_leaf : ByteArray := prog_13_method_49_code
def yX11_leaf : MethodName := ⟨RX11, "leaf", "(ZII)V"⟩
abbrev cX11_readPart : ByteArray := prog_13_method_50_code
def yX11_readPart : MethodName := ⟨RX11, "readPart", "()I"⟩
abbrev cX11_readPlain : ByteArray := prog_13_method_51_code
def yX11_readPlain : MethodName := ⟨RX11, "readPlain", "()I"⟩
abbrev cX11_behindSum : ByteArray := prog_13_method_52_code
def yX11_behindSum : MethodName := ⟨RX11, "behindSum", "(Z)I"⟩
abbrev cX11_behindTest : ByteArray := prog_13_method_53_code
def yX11_behindTest : MethodName := ⟨RX11, "behindTest", "()I"⟩
abbrev cX11_readExpression : ByteArray := prog_13_method_54_code
def yX11_readExpression : MethodName := ⟨RX11, "readExpression", "(Z)V"⟩
abbrev cX11_readBeat : ByteArray := prog_13_method_55_code
def yX11_readBeat : MethodName := ⟨RX11, "readBeat", "()V"⟩
abbrev cX11_readClause : ByteArray := prog_13_method_56_code
def yX11_readClause : MethodName := ⟨RX11, "readClause", "()V"⟩
abbrev cX11_play : ByteArray := prog_13_method_57_code
def yX11_play : MethodName := ⟨RX11, "play", "()I"⟩
abbrev cX11_reckon : ByteArray := prog_13_method_58_code
def yX11_reckon : MethodName := ⟨RX11, "reckon", "(IJJ)J"⟩
abbrev cX11_reckonAll : ByteArray := prog_13_method_59_code
def yX11_reckonAll : MethodName := ⟨RX11, "reckonAll", "(II)V"⟩
abbrev cX11_isSo : ByteArray := prog_13_method_60_code
def yX11_isSo : MethodName := ⟨RX11, "isSo", "(I)Z"⟩
abbrev cX11_tells : ByteArray := prog_13_method_61_code
def yX11_tells : MethodName := ⟨RX11, "tells", "(IIIIIII)I"⟩
abbrev cX11_shadowRow : ByteArray := prog_13_method_62_code
def yX11_shadowRow : MethodName := ⟨RX11, "shadowRow", "(III)I"⟩
abbrev cX11_allRow : ByteArray := prog_13_method_63_code
def yX11_allRow : MethodName := ⟨RX11, "allRow", "(II)I"⟩
abbrev cX11_shadow : ByteArray := prog_13_method_64_code
def yX11_shadow : MethodName := ⟨RX11, "shadow", "(III)I"⟩
abbrev cX11_seen : ByteArray := prog_13_method_65_code
def yX11_seen : MethodName := ⟨RX11, "seen", "(III)I"⟩
abbrev cX11_common : ByteArray := prog_13_method_66_code
def yX11_common : MethodName := ⟨RX11, "common", "(III)I"⟩
abbrev cX11_copy : ByteArray := prog_13_method_67_code
def yX11_copy : MethodName := ⟨RX11, "copy", "(I)I"⟩
abbrev cX11_canHold : ByteArray := prog_13_method_68_code
def yX11_canHold : MethodName := ⟨RX11, "canHold", "(III)Z"⟩
abbrev cX11_isNear : ByteArray := prog_13_method_69_code
def yX11_isNear : MethodName := ⟨RX11, "isNear", "(III)Z"⟩
abbrev cX11_isStill : ByteArray := prog_13_method_70_code
def yX11_isStill : MethodName := ⟨RX11, "isStill", "(II)Z"⟩
abbrev cX11_onBits : ByteArray := prog_13_method_71_code
def yX11_onBits : MethodName := ⟨RX11, "onBits", "(I)I"⟩
abbrev cX11_holds : ByteArray := prog_13_method_72_code
def yX11_holds : MethodName := ⟨RX11, "holds", "(III)I"⟩
abbrev cX11_findCan : ByteArray := prog_13_method_73_code
def yX11_findCan : MethodName := ⟨RX11, "findCan", "(II)V"⟩
abbrev cX11_holderIn : ByteArray := prog_13_method_74_code
def yX11_holderIn : MethodName := ⟨RX11, "holderIn", "(II)I"⟩
abbrev cX11_isHolding : ByteArray := prog_13_method_75_code
def yX11_isHolding : MethodName := ⟨RX11, "isHolding", "(III)Z"⟩
abbrev cX11_holdingsOf : ByteArray := prog_13_method_76_code
def yX11_holdingsOf : MethodName := ⟨RX11, "holdingsOf", "(III)I"⟩
abbrev cX11_holdings : ByteArray := prog_13_method_77_code
def yX11_holdings : MethodName := ⟨RX11, "holdings", "(I)I"⟩
abbrev cX11_findLeast : ByteArray := prog_13_method_78_code
def yX11_findLeast : MethodName := ⟨RX11, "findLeast", "()V"⟩
abbrev cX11_reckonBeat : ByteArray := prog_13_method_79_code
def yX11_reckonBeat : MethodName := ⟨RX11, "reckonBeat", "(I)V"⟩
abbrev cX11_backFigure : ByteArray := prog_13_method_80_code
def yX11_backFigure : MethodName := ⟨RX11, "backFigure", "(IIZZ)V"⟩
abbrev cX11_passedBetween : ByteArray := prog_13_method_81_code
def yX11_passedBetween : MethodName := ⟨RX11, "passedBetween", "(III)I"⟩
abbrev cX11_findFirst : ByteArray := prog_13_method_82_code
def yX11_findFirst : MethodName := ⟨RX11, "findFirst", "()V"⟩
abbrev cX11_least : ByteArray := prog_13_method_83_code
def yX11_least : MethodName := ⟨RX11, "least", "(I)I"⟩
abbrev cX11_holder : ByteArray := prog_13_method_84_code
def yX11_holder : MethodName := ⟨RX11, "holder", "(II)I"⟩
abbrev cX11_passed : ByteArray := prog_13_method_85_code
def yX11_passed : MethodName := ⟨RX11, "passed", "(I)I"⟩
abbrev cX11_fewest : ByteArray := prog_13_method_86_code
def yX11_fewest : MethodName := ⟨RX11, "fewest", "()I"⟩
abbrev cX11_barred : ByteArray := prog_13_method_87_code
def yX11_barred : MethodName := ⟨RX11, "barred", "(I)I"⟩
abbrev cX11_findCells : ByteArray := prog_13_method_88_code
def yX11_findCells : MethodName := ⟨RX11, "findCells", "()Z"⟩
abbrev cX11_findShadows : ByteArray := prog_13_method_89_code
def yX11_findShadows : MethodName := ⟨RX11, "findShadows", "(I)V"⟩
abbrev cX11_tryPlace : ByteArray := prog_13_method_90_code
def yX11_tryPlace : MethodName := ⟨RX11, "tryPlace", "(IIII)V"⟩
abbrev cX11_findMade : ByteArray := prog_13_method_91_code
def yX11_findMade : MethodName := ⟨RX11, "findMade", "(I)V"⟩
abbrev cX11_maskAt : ByteArray := prog_13_method_92_code
def yX11_maskAt : MethodName := ⟨RX11, "maskAt", "(II)J"⟩
abbrev cX11_goOver : ByteArray := prog_13_method_93_code
def yX11_goOver : MethodName := ⟨RX11, "goOver", "(II)V"⟩
abbrev cX11_take : ByteArray := prog_13_method_94_code
def yX11_take : MethodName := ⟨RX11, "take", "(IZIII)V"⟩
abbrev cX11_isCast : ByteArray := prog_13_method_95_code
def yX11_isCast : MethodName := ⟨RX11, "isCast", "(I)Z"⟩
abbrev cX11_made : ByteArray := prog_13_method_96_code
def yX11_made : MethodName := ⟨RX11, "made", "(II)I"⟩
abbrev cX11_who : ByteArray := prog_13_method_97_code
def yX11_who : MethodName := ⟨RX11, "who", "(III)I"⟩
abbrev cX11_show : ByteArray := prog_13_method_98_code
def yX11_show : MethodName := ⟨RX11, "show", "(I)I"⟩
abbrev cX11_slipped : ByteArray := prog_13_method_99_code
def yX11_slipped : MethodName := ⟨RX11, "slipped", "(I)I"⟩
abbrev cX11_count : ByteArray := prog_13_method_100_code
def yX11_count : MethodName := ⟨RX11, "count", "(I)I"⟩
abbrev cX11_status : ByteArray := prog_13_method_101_code
def yX11_status : MethodName := ⟨RX11, "status", "()I"⟩
def RJx145de : String := "java/io/Serializable"
def TJx145de : u_T := fun k => match k with
  | _ => ("", "", "", false)
def tyJx145de : Nat → FieldType := fun k => match k with
  | _ => .int
abbrev wsJx145de0 : List Cond := u_ws RJx145de TJx145de 0
theorem nmJx145de : ∀ a, a < 0 → ∀ b, b < 0 → a ≠ b → (TJx145de a).2.1 ≠ (TJx145de b).2.1 := by decide +kernel
theorem tyJx145de_ok : ∀ k, k < 0 → parseFieldDescriptor (TJx145de k).2.2.1 = some (tyJx145de k) := by decide +kernel
def RJx9f9b0 : String := "java/lang/CharSequence"
def TJx9f9b0 : u_T := fun k => match k with
  | _ => ("", "", "", false)
def tyJx9f9b0 : Nat → FieldType := fun k => match k with
  | _ => .int
abbrev wsJx9f9b00 : List Cond := u_ws RJx9f9b0 TJx9f9b0 0
theorem nmJx9f9b0 : ∀ a, a < 0 → ∀ b, b < 0 → a ≠ b → (TJx9f9b0 a).2.1 ≠ (TJx9f9b0 b).2.1 := by decide +kernel
theorem tyJx9f9b0_ok : ∀ k, k < 0 → parseFieldDescriptor (TJx9f9b0 k).2.2.1 = some (tyJx9f9b0 k) := by decide +kernel
def RJx8e188 : String := "java/lang/Cloneable"
def TJx8e188 : u_T := fun k => match k with
  | _ => ("", "", "", false)
def tyJx8e188 : Nat → FieldType := fun k => match k with
  | _ => .int
abbrev wsJx8e1880 : List Cond := u_ws RJx8e188 TJx8e188 0
theorem nmJx8e188 : ∀ a, a < 0 → ∀ b, b < 0 → a ≠ b → (TJx8e188 a).2.1 ≠ (TJx8e188 b).2.1 := by decide +kernel
theorem tyJx8e188_ok : ∀ k, k < 0 → parseFieldDescriptor (TJx8e188 k).2.2.1 = some (tyJx8e188 k) := by decide +kernel
def RJxb160c : String := "java/lang/Comparable"
def TJxb160c : u_T := fun k => match k with
  | _ => ("", "", "", false)
def tyJxb160c : Nat → FieldType := fun k => match k with
  | _ => .int
abbrev wsJxb160c0 : List Cond := u_ws RJxb160c TJxb160c 0
theorem nmJxb160c : ∀ a, a < 0 → ∀ b, b < 0 → a ≠ b → (TJxb160c a).2.1 ≠ (TJxb160c b).2.1 := by decide +kernel
theorem tyJxb160c_ok : ∀ k, k < 0 → parseFieldDescriptor (TJxb160c k).2.2.1 = some (tyJxb160c k) := by decide +kernel
def RJ6 : String := "java/lang/Integer"
def TJ6 : u_T := fun k => match k with
  | _ => ("", "", "", false)
def tyJ6 : Nat → FieldType := fun k => match k with
  | _ => .int
abbrev wsJ60 : List Cond := u_ws RJ6 TJ6 0
theorem nmJ6 : ∀ a, a < 0 → ∀ b, b < 0 → a ≠ b → (TJ6 a).2.1 ≠ (TJ6 b).2.1 := by decide +kernel
theorem tyJ6_ok : ∀ k, k < 0 → parseFieldDescriptor (TJ6 k).2.2.1 = some (tyJ6 k) := by decide +kernel
abbrev cJ6_numberOfTrailingZeros_0f7a4 : ByteArray := prog_15_method_48_code
def yJ6_numberOfTrailingZeros_0f7a4 : MethodName := ⟨RJ6, "numberOfTrailingZeros", "(I)I"⟩
abbrev cJ6_bitCount_0f7a4 : ByteArray := prog_15_method_49_code
def yJ6_bitCount_0f7a4 : MethodName := ⟨RJ6, "bitCount", "(I)I"⟩
def RJ13 : String := "java/lang/Long"
def TJ13 : u_T := fun k => match k with
  | _ => ("", "", "", false)
def tyJ13 : Nat → FieldType := fun k => match k with
  | _ => .int
abbrev wsJ130 : List Cond := u_ws RJ13 TJ13 0
theorem nmJ13 : ∀ a, a < 0 → ∀ b, b < 0 → a ≠ b → (TJ13 a).2.1 ≠ (TJ13 b).2.1 := by decide +kernel
theorem tyJ13_ok : ∀ k, k < 0 → parseFieldDescriptor (TJ13 k).2.2.1 = some (tyJ13 k) := by decide +kernel
abbrev cJ13_numberOfTrailingZeros_95d88 : ByteArray := prog_16_method_49_code
def yJ13_numberOfTrailingZeros_95d88 : MethodName := ⟨RJ13, "numberOfTrailingZeros", "(J)I"⟩
abbrev cJ13_bitCount_95d88 : ByteArray := prog_16_method_50_code
def yJ13_bitCount_95d88 : MethodName := ⟨RJ13, "bitCount", "(J)I"⟩
def RJ9 : String := "java/lang/Math"
def TJ9 : u_T := fun k => match k with
  | _ => ("", "", "", false)
def tyJ9 : Nat → FieldType := fun k => match k with
  | _ => .int
abbrev wsJ90 : List Cond := u_ws RJ9 TJ9 0
theorem nmJ9 : ∀ a, a < 0 → ∀ b, b < 0 → a ≠ b → (TJ9 a).2.1 ≠ (TJ9 b).2.1 := by decide +kernel
theorem tyJ9_ok : ∀ k, k < 0 → parseFieldDescriptor (TJ9 k).2.2.1 = some (tyJ9 k) := by decide +kernel
abbrev cJ9_abs_0f7a4 : ByteArray := prog_17_method_59_code
def yJ9_abs_0f7a4 : MethodName := ⟨RJ9, "abs", "(I)I"⟩
abbrev cJ9_max_7cf53 : ByteArray := prog_17_method_65_code
def yJ9_max_7cf53 : MethodName := ⟨RJ9, "max", "(II)I"⟩
abbrev cJ9_max_f86c9 : ByteArray := prog_17_method_66_code
def yJ9_max_f86c9 : MethodName := ⟨RJ9, "max", "(JJ)J"⟩
abbrev cJ9_min_7cf53 : ByteArray := prog_17_method_69_code
def yJ9_min_7cf53 : MethodName := ⟨RJ9, "min", "(II)I"⟩
abbrev cJ9_min_f86c9 : ByteArray := prog_17_method_70_code
def yJ9_min_f86c9 : MethodName := ⟨RJ9, "min", "(JJ)J"⟩
def RJxd2413 : String := "java/lang/Number"
def TJxd2413 : u_T := fun k => match k with
  | _ => ("", "", "", false)
def tyJxd2413 : Nat → FieldType := fun k => match k with
  | _ => .int
abbrev wsJxd24130 : List Cond := u_ws RJxd2413 TJxd2413 0
theorem nmJxd2413 : ∀ a, a < 0 → ∀ b, b < 0 → a ≠ b → (TJxd2413 a).2.1 ≠ (TJxd2413 b).2.1 := by decide +kernel
theorem tyJxd2413_ok : ∀ k, k < 0 → parseFieldDescriptor (TJxd2413 k).2.2.1 = some (tyJxd2413 k) := by decide +kernel
def RJ0 : String := "java/lang/String"
def TJ0 : u_T := fun k => match k with
  | _ => ("", "", "", false)
def tyJ0 : Nat → FieldType := fun k => match k with
  | _ => .int
abbrev wsJ00 : List Cond := u_ws RJ0 TJ0 0
theorem nmJ0 : ∀ a, a < 0 → ∀ b, b < 0 → a ≠ b → (TJ0 a).2.1 ≠ (TJ0 b).2.1 := by decide +kernel
theorem tyJ0_ok : ∀ k, k < 0 → parseFieldDescriptor (TJ0 k).2.2.1 = some (tyJ0 k) := by decide +kernel
abbrev cJ0_length_8abf5 : ByteArray := prog_19_method_54_code
def yJ0_length_8abf5 : MethodName := ⟨RJ0, "length", "()I"⟩
abbrev cJ0_charAt_5068e : ByteArray := prog_19_method_56_code
def yJ0_charAt_5068e : MethodName := ⟨RJ0, "charAt", "(I)C"⟩
abbrev cJ0_coder_7d493 : ByteArray := prog_19_method_152_code
def yJ0_coder_7d493 : MethodName := ⟨RJ0, "coder", "()B"⟩
abbrev cJ0_isLatin1_aae02 : ByteArray := prog_19_method_154_code
def yJ0_isLatin1_aae02 : MethodName := ⟨RJ0, "isLatin1", "()Z"⟩
abbrev cJ0_checkIndex_df160 : ByteArray := prog_19_method_155_code
def yJ0_checkIndex_df160 : MethodName := ⟨RJ0, "checkIndex", "(II)V"⟩
def RJ1 : String := "java/lang/StringLatin1"
def TJ1 : u_T := fun k => match k with
  | _ => ("", "", "", false)
def tyJ1 : Nat → FieldType := fun k => match k with
  | _ => .int
abbrev wsJ10 : List Cond := u_ws RJ1 TJ1 0
theorem nmJ1 : ∀ a, a < 0 → ∀ b, b < 0 → a ≠ b → (TJ1 a).2.1 ≠ (TJ1 b).2.1 := by decide +kernel
theorem tyJ1_ok : ∀ k, k < 0 → parseFieldDescriptor (TJ1 k).2.2.1 = some (tyJ1 k) := by decide +kernel
abbrev cJ1_charAt_3b067 : ByteArray := prog_20_method_2_code
def yJ1_charAt_3b067 : MethodName := ⟨RJ1, "charAt", "([BI)C"⟩
def RJ2 : String := "java/lang/StringUTF16"
def TJ2 : u_T := fun k => match k with
  | _ => ("", "", "", false)
def tyJ2 : Nat → FieldType := fun k => match k with
  | _ => .int
abbrev wsJ20 : List Cond := u_ws RJ2 TJ2 0
theorem nmJ2 : ∀ a, a < 0 → ∀ b, b < 0 → a ≠ b → (TJ2 a).2.1 ≠ (TJ2 b).2.1 := by decide +kernel
theorem tyJ2_ok : ∀ k, k < 0 → parseFieldDescriptor (TJ2 k).2.2.1 = some (tyJ2 k) := by decide +kernel
abbrev cJ2_getChar_3b067 : ByteArray := prog_21_method_5_code
def yJ2_getChar_3b067 : MethodName := ⟨RJ2, "getChar", "([BI)C"⟩
abbrev cJ2_length_9d52b : ByteArray := prog_21_method_6_code
def yJ2_length_9d52b : MethodName := ⟨RJ2, "length", "([B)I"⟩
abbrev cJ2_charAt_3b067 : ByteArray := prog_21_method_83_code
def yJ2_charAt_3b067 : MethodName := ⟨RJ2, "charAt", "([BI)C"⟩
abbrev cJ2_checkIndex_2214a : ByteArray := prog_21_method_91_code
def yJ2_checkIndex_2214a : MethodName := ⟨RJ2, "checkIndex", "(I[B)V"⟩
def RJ10 : String := "java/lang/System"
def TJ10 : u_T := fun k => match k with
  | _ => ("", "", "", false)
def tyJ10 : Nat → FieldType := fun k => match k with
  | _ => .int
abbrev wsJ100 : List Cond := u_ws RJ10 TJ10 0
theorem nmJ10 : ∀ a, a < 0 → ∀ b, b < 0 → a ≠ b → (TJ10 a).2.1 ≠ (TJ10 b).2.1 := by decide +kernel
theorem tyJ10_ok : ∀ k, k < 0 → parseFieldDescriptor (TJ10 k).2.2.1 = some (tyJ10 k) := by decide +kernel
def RJxfd54e : String := "java/lang/constant/Constable"
def TJxfd54e : u_T := fun k => match k with
  | _ => ("", "", "", false)
def tyJxfd54e : Nat → FieldType := fun k => match k with
  | _ => .int
abbrev wsJxfd54e0 : List Cond := u_ws RJxfd54e TJxfd54e 0
theorem nmJxfd54e : ∀ a, a < 0 → ∀ b, b < 0 → a ≠ b → (TJxfd54e a).2.1 ≠ (TJxfd54e b).2.1 := by decide +kernel
theorem tyJxfd54e_ok : ∀ k, k < 0 → parseFieldDescriptor (TJxfd54e k).2.2.1 = some (tyJxfd54e k) := by decide +kernel
def RJx3cf43 : String := "java/lang/constant/ConstantDesc"
def TJx3cf43 : u_T := fun k => match k with
  | _ => ("", "", "", false)
def tyJx3cf43 : Nat → FieldType := fun k => match k with
  | _ => .int
abbrev wsJx3cf430 : List Cond := u_ws RJx3cf43 TJx3cf43 0
theorem nmJx3cf43 : ∀ a, a < 0 → ∀ b, b < 0 → a ≠ b → (TJx3cf43 a).2.1 ≠ (TJx3cf43 b).2.1 := by decide +kernel
theorem tyJx3cf43_ok : ∀ k, k < 0 → parseFieldDescriptor (TJx3cf43 k).2.2.1 = some (tyJx3cf43 k) := by decide +kernel
def RJ7 : String := "java/util/Arrays"
def TJ7 : u_T := fun k => match k with
  | _ => ("", "", "", false)
def tyJ7 : Nat → FieldType := fun k => match k with
  | _ => .int
abbrev wsJ70 : List Cond := u_ws RJ7 TJ7 0
theorem nmJ7 : ∀ a, a < 0 → ∀ b, b < 0 → a ≠ b → (TJ7 a).2.1 ≠ (TJ7 b).2.1 := by decide +kernel
theorem tyJ7_ok : ∀ k, k < 0 → parseFieldDescriptor (TJ7 k).2.2.1 = some (tyJ7 k) := by decide +kernel
abbrev cJ7_rangeCheck_23922 : ByteArray := prog_23_method_30_code
def yJ7_rangeCheck_23922 : MethodName := ⟨RJ7, "rangeCheck", "(III)V"⟩
abbrev cJ7_fill_d0a16 : ByteArray := prog_23_method_101_code
def yJ7_fill_d0a16 : MethodName := ⟨RJ7, "fill", "([JJ)V"⟩
abbrev cJ7_fill_bad5a : ByteArray := prog_23_method_102_code
def yJ7_fill_bad5a : MethodName := ⟨RJ7, "fill", "([JIIJ)V"⟩
abbrev cJ7_fill_53178 : ByteArray := prog_23_method_103_code
def yJ7_fill_53178 : MethodName := ⟨RJ7, "fill", "([II)V"⟩
abbrev cJ7_fill_fda19 : ByteArray := prog_23_method_104_code
def yJ7_fill_fda19 : MethodName := ⟨RJ7, "fill", "([IIII)V"⟩
def RJ3 : String := "jdk/internal/util/Preconditions"
def TJ3 : u_T := fun k => match k with
  | _ => ("", "", "", false)
def tyJ3 : Nat → FieldType := fun k => match k with
  | _ => .int
abbrev wsJ30 : List Cond := u_ws RJ3 TJ3 0
theorem nmJ3 : ∀ a, a < 0 → ∀ b, b < 0 → a ≠ b → (TJ3 a).2.1 ≠ (TJ3 b).2.1 := by decide +kernel
theorem tyJ3_ok : ∀ k, k < 0 → parseFieldDescriptor (TJ3 k).2.2.1 = some (tyJ3 k) := by decide +kernel
abbrev cJ3_checkIndex_8e157 : ByteArray := prog_24_method_11_code
def yJ3_checkIndex_8e157 : MethodName := ⟨RJ3, "checkIndex", "(IILjava/util/function/BiFunction;)I"⟩
def RL : String := "ClothPlayLaw"
abbrev cL_law : ByteArray := code
def yL_law : MethodName := ⟨RL, "law", "([I)Z"⟩
abbrev vwCl : List vw_C := [(RX0, TX0, 4), (RX1, TX1, 8), (RX2, TX2, 1), (RX3, TX3, 14), (RX4, TX4, 15), (RX5, TX5, 9), (RX6, TX6, 11), (RX7, TX7, 9), (RX8, TX8, 8), (RX9, TX9, 8), (RX10, TX10, 16), (RX11, TX11, 62)]
