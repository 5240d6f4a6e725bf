section
-- ===== PART A: goes FIRST, ahead of the names: the tables' words, and 'selects' of the private methods out of them =====
/-- a private method of a class that the tables say can be made, by its rows of tables_1 -/
def lw_okq (q : MethodName × Nat) : Prop := (q.1.cls ≠ "java/lang/invoke/MethodHandle" ∧ q.1.cls ≠ "java/lang/invoke/VarHandle") ∧ Cond.instantiable q.1.cls q.2 ∈ tables_1 ∧ Cond.privateMethod q.1 ∈ tables_1 ∧ Cond.instanceMethod q.1 ∈ tables_1
theorem lw_p0 : lw_okq (⟨"OneOfEach$Tape", "readSock", "(LOneOfEach$Sock;)I"⟩, 4) := ⟨⟨by decide +kernel, by decide +kernel⟩, List.mem_of_getElem? (i := 128) (by decide +kernel), List.mem_of_getElem? (i := 342) (by decide +kernel), List.mem_of_getElem? (i := 343) (by decide +kernel)⟩
theorem lw_p1 : lw_okq (⟨"OneOfEach$Tape", "readKind", "()I"⟩, 4) := ⟨⟨by decide +kernel, by decide +kernel⟩, List.mem_of_getElem? (i := 128) (by decide +kernel), List.mem_of_getElem? (i := 346) (by decide +kernel), List.mem_of_getElem? (i := 347) (by decide +kernel)⟩
theorem lw_p2 : lw_okq (⟨"OneOfEach$Tape", "nextSign", "()I"⟩, 4) := ⟨⟨by decide +kernel, by decide +kernel⟩, List.mem_of_getElem? (i := 128) (by decide +kernel), List.mem_of_getElem? (i := 350) (by decide +kernel), List.mem_of_getElem? (i := 351) (by decide +kernel)⟩
theorem lw_p3 : lw_okq (⟨"OneOfEach$Tape", "readHand", "()I"⟩, 4) := ⟨⟨by decide +kernel, by decide +kernel⟩, List.mem_of_getElem? (i := 128) (by decide +kernel), List.mem_of_getElem? (i := 354) (by decide +kernel), List.mem_of_getElem? (i := 355) (by decide +kernel)⟩
theorem lw_p4 : lw_okq (⟨"OneOfEach$Tape", "skipSign", "(I)Z"⟩, 4) := ⟨⟨by decide +kernel, by decide +kernel⟩, List.mem_of_getElem? (i := 128) (by decide +kernel), List.mem_of_getElem? (i := 358) (by decide +kernel), List.mem_of_getElem? (i := 359) (by decide +kernel)⟩
theorem lw_p5 : lw_okq (⟨"OneOfEach$Tape", "readNumber", "(I)I"⟩, 4) := ⟨⟨by decide +kernel, by decide +kernel⟩, List.mem_of_getElem? (i := 128) (by decide +kernel), List.mem_of_getElem? (i := 362) (by decide +kernel), List.mem_of_getElem? (i := 363) (by decide +kernel)⟩
theorem lw_p6 : lw_okq (⟨"OneOfEach$Tape", "readLodgers", "()I"⟩, 4) := ⟨⟨by decide +kernel, by decide +kernel⟩, List.mem_of_getElem? (i := 128) (by decide +kernel), List.mem_of_getElem? (i := 369) (by decide +kernel), List.mem_of_getElem? (i := 370) (by decide +kernel)⟩
theorem lw_p7 : lw_okq (⟨"OneOfEach", "isSock", "(I)Z"⟩, 11) := ⟨⟨by decide +kernel, by decide +kernel⟩, List.mem_of_getElem? (i := 17) (by decide +kernel), List.mem_of_getElem? (i := 378) (by decide +kernel), List.mem_of_getElem? (i := 379) (by decide +kernel)⟩
theorem lw_p8 : lw_okq (⟨"OneOfEach", "areTwo", "(II)Z"⟩, 11) := ⟨⟨by decide +kernel, by decide +kernel⟩, List.mem_of_getElem? (i := 17) (by decide +kernel), List.mem_of_getElem? (i := 454) (by decide +kernel), List.mem_of_getElem? (i := 455) (by decide +kernel)⟩
theorem lw_p9 : lw_okq (⟨"OneOfEach$Pairing", "weigh", "(LOneOfEach$House;I)V"⟩, 5) := ⟨⟨by decide +kernel, by decide +kernel⟩, List.mem_of_getElem? (i := 153) (by decide +kernel), List.mem_of_getElem? (i := 494) (by decide +kernel), List.mem_of_getElem? (i := 495) (by decide +kernel)⟩
theorem lw_p10 : lw_okq (⟨"OneOfEach$Pairing", "trace", "(LOneOfEach$House;I)V"⟩, 5) := ⟨⟨by decide +kernel, by decide +kernel⟩, List.mem_of_getElem? (i := 153) (by decide +kernel), List.mem_of_getElem? (i := 506) (by decide +kernel), List.mem_of_getElem? (i := 507) (by decide +kernel)⟩
theorem lw_p11 : lw_okq (⟨"OneOfEach$Pairing", "firstFellow", "(III)I"⟩, 5) := ⟨⟨by decide +kernel, by decide +kernel⟩, List.mem_of_getElem? (i := 153) (by decide +kernel), List.mem_of_getElem? (i := 510) (by decide +kernel), List.mem_of_getElem? (i := 511) (by decide +kernel)⟩
theorem lw_p12 : lw_okq (⟨"OneOfEach", "isWellTold", "(LOneOfEach$Sheet;II)Z"⟩, 11) := ⟨⟨by decide +kernel, by decide +kernel⟩, List.mem_of_getElem? (i := 17) (by decide +kernel), List.mem_of_getElem? (i := 547) (by decide +kernel), List.mem_of_getElem? (i := 548) (by decide +kernel)⟩
theorem lw_p13 : lw_okq (⟨"OneOfEach", "reckonWeeks", "(IIIIII)I"⟩, 11) := ⟨⟨by decide +kernel, by decide +kernel⟩, List.mem_of_getElem? (i := 17) (by decide +kernel), List.mem_of_getElem? (i := 555) (by decide +kernel), List.mem_of_getElem? (i := 556) (by decide +kernel)⟩
theorem lw_p14 : lw_okq (⟨"OneOfEach$Dark", "addKind", "(IIZ)V"⟩, 2) := ⟨⟨by decide +kernel, by decide +kernel⟩, List.mem_of_getElem? (i := 200) (by decide +kernel), List.mem_of_getElem? (i := 598) (by decide +kernel), List.mem_of_getElem? (i := 599) (by decide +kernel)⟩
theorem lw_p15 : lw_okq (⟨"OneOfEach$Owning", "dealKind", "(LOneOfEach$House;III)I"⟩, 1) := ⟨⟨by decide +kernel, by decide +kernel⟩, List.mem_of_getElem? (i := 215) (by decide +kernel), List.mem_of_getElem? (i := 641) (by decide +kernel), List.mem_of_getElem? (i := 642) (by decide +kernel)⟩
def lw_privs_1 : List (MethodName × Nat) := [(⟨"OneOfEach$Tape", "readSock", "(LOneOfEach$Sock;)I"⟩, 4), (⟨"OneOfEach$Tape", "readKind", "()I"⟩, 4), (⟨"OneOfEach$Tape", "nextSign", "()I"⟩, 4), (⟨"OneOfEach$Tape", "readHand", "()I"⟩, 4), (⟨"OneOfEach$Tape", "skipSign", "(I)Z"⟩, 4), (⟨"OneOfEach$Tape", "readNumber", "(I)I"⟩, 4), (⟨"OneOfEach$Tape", "readLodgers", "()I"⟩, 4), (⟨"OneOfEach", "isSock", "(I)Z"⟩, 11), (⟨"OneOfEach", "areTwo", "(II)Z"⟩, 11), (⟨"OneOfEach$Pairing", "weigh", "(LOneOfEach$House;I)V"⟩, 5), (⟨"OneOfEach$Pairing", "trace", "(LOneOfEach$House;I)V"⟩, 5), (⟨"OneOfEach$Pairing", "firstFellow", "(III)I"⟩, 5), (⟨"OneOfEach", "isWellTold", "(LOneOfEach$Sheet;II)Z"⟩, 11), (⟨"OneOfEach", "reckonWeeks", "(IIIIII)I"⟩, 11), (⟨"OneOfEach$Dark", "addKind", "(IIZ)V"⟩, 2), (⟨"OneOfEach$Owning", "dealKind", "(LOneOfEach$House;III)I"⟩, 1)]
theorem lw_r1 : ∀ q ∈ lw_privs_1, lw_okq q := List.forall_mem_cons.mpr ⟨lw_p0, List.forall_mem_cons.mpr ⟨lw_p1, List.forall_mem_cons.mpr ⟨lw_p2, List.forall_mem_cons.mpr ⟨lw_p3, List.forall_mem_cons.mpr ⟨lw_p4, List.forall_mem_cons.mpr ⟨lw_p5, List.forall_mem_cons.mpr ⟨lw_p6, List.forall_mem_cons.mpr ⟨lw_p7, List.forall_mem_cons.mpr ⟨lw_p8, List.forall_mem_cons.mpr ⟨lw_p9, List.forall_mem_cons.mpr ⟨lw_p10, List.forall_mem_cons.mpr ⟨lw_p11, List.forall_mem_cons.mpr ⟨lw_p12, List.forall_mem_cons.mpr ⟨lw_p13, List.forall_mem_cons.mpr ⟨lw_p14, List.forall_mem_cons.mpr ⟨lw_p15, fun _ h => absurd h List.not_mem_nil⟩⟩⟩⟩⟩⟩⟩⟩⟩⟩⟩⟩⟩⟩⟩⟩
theorem lw_p16 : lw_okq (⟨"OneOfEach$Owning", "deal", "(III)V"⟩, 1) := ⟨⟨by decide +kernel, by decide +kernel⟩, List.mem_of_getElem? (i := 215) (by decide +kernel), List.mem_of_getElem? (i := 654) (by decide +kernel), List.mem_of_getElem? (i := 655) (by decide +kernel)⟩
theorem lw_p17 : lw_okq (⟨"OneOfEach$Owning", "sumAsTold", "(LOneOfEach$House;II)J"⟩, 1) := ⟨⟨by decide +kernel, by decide +kernel⟩, List.mem_of_getElem? (i := 215) (by decide +kernel), List.mem_of_getElem? (i := 658) (by decide +kernel), List.mem_of_getElem? (i := 659) (by decide +kernel)⟩
theorem lw_p18 : lw_okq (⟨"OneOfEach$Threads", "search", "(II)I"⟩, 4) := ⟨⟨by decide +kernel, by decide +kernel⟩, List.mem_of_getElem? (i := 225) (by decide +kernel), List.mem_of_getElem? (i := 697) (by decide +kernel), List.mem_of_getElem? (i := 698) (by decide +kernel)⟩
theorem lw_p19 : lw_okq (⟨"OneOfEach$Threads", "compare", "(II)V"⟩, 4) := ⟨⟨by decide +kernel, by decide +kernel⟩, List.mem_of_getElem? (i := 225) (by decide +kernel), List.mem_of_getElem? (i := 701) (by decide +kernel), List.mem_of_getElem? (i := 702) (by decide +kernel)⟩
theorem lw_p20 : lw_okq (⟨"OneOfEachModel", "add", "(IIIII)V"⟩, 20) := ⟨⟨by decide +kernel, by decide +kernel⟩, List.mem_of_getElem? (i := 758) (by decide +kernel), List.mem_of_getElem? (i := 834) (by decide +kernel), List.mem_of_getElem? (i := 835) (by decide +kernel)⟩
theorem lw_p21 : lw_okq (⟨"OneOfEachModel", "put", "(III)V"⟩, 20) := ⟨⟨by decide +kernel, by decide +kernel⟩, List.mem_of_getElem? (i := 758) (by decide +kernel), List.mem_of_getElem? (i := 838) (by decide +kernel), List.mem_of_getElem? (i := 839) (by decide +kernel)⟩
theorem lw_p22 : lw_okq (⟨"OneOfEachModel", "readSocks", "()Z"⟩, 20) := ⟨⟨by decide +kernel, by decide +kernel⟩, List.mem_of_getElem? (i := 758) (by decide +kernel), List.mem_of_getElem? (i := 854) (by decide +kernel), List.mem_of_getElem? (i := 855) (by decide +kernel)⟩
theorem lw_p23 : lw_okq (⟨"OneOfEachModel", "readSock", "(I)Z"⟩, 20) := ⟨⟨by decide +kernel, by decide +kernel⟩, List.mem_of_getElem? (i := 758) (by decide +kernel), List.mem_of_getElem? (i := 858) (by decide +kernel), List.mem_of_getElem? (i := 859) (by decide +kernel)⟩
theorem lw_p24 : lw_okq (⟨"OneOfEachModel", "nextByte", "()I"⟩, 20) := ⟨⟨by decide +kernel, by decide +kernel⟩, List.mem_of_getElem? (i := 758) (by decide +kernel), List.mem_of_getElem? (i := 862) (by decide +kernel), List.mem_of_getElem? (i := 863) (by decide +kernel)⟩
theorem lw_p25 : lw_okq (⟨"OneOfEachModel", "readNumber", "(II)I"⟩, 20) := ⟨⟨by decide +kernel, by decide +kernel⟩, List.mem_of_getElem? (i := 758) (by decide +kernel), List.mem_of_getElem? (i := 866) (by decide +kernel), List.mem_of_getElem? (i := 867) (by decide +kernel)⟩
theorem lw_p26 : lw_okq (⟨"OneOfEachModel", "takes", "(I)Z"⟩, 20) := ⟨⟨by decide +kernel, by decide +kernel⟩, List.mem_of_getElem? (i := 758) (by decide +kernel), List.mem_of_getElem? (i := 872) (by decide +kernel), List.mem_of_getElem? (i := 873) (by decide +kernel)⟩
theorem lw_p27 : lw_okq (⟨"OneOfEachModel", "readLodgers", "()I"⟩, 20) := ⟨⟨by decide +kernel, by decide +kernel⟩, List.mem_of_getElem? (i := 758) (by decide +kernel), List.mem_of_getElem? (i := 876) (by decide +kernel), List.mem_of_getElem? (i := 877) (by decide +kernel)⟩
theorem lw_p28 : lw_okq (⟨"OneOfEachModel", "isSock", "(I)Z"⟩, 20) := ⟨⟨by decide +kernel, by decide +kernel⟩, List.mem_of_getElem? (i := 758) (by decide +kernel), List.mem_of_getElem? (i := 885) (by decide +kernel), List.mem_of_getElem? (i := 886) (by decide +kernel)⟩
theorem lw_p29 : lw_okq (⟨"OneOfEachModel", "of", "(II)I"⟩, 20) := ⟨⟨by decide +kernel, by decide +kernel⟩, List.mem_of_getElem? (i := 758) (by decide +kernel), List.mem_of_getElem? (i := 890) (by decide +kernel), List.mem_of_getElem? (i := 891) (by decide +kernel)⟩
theorem lw_p30 : lw_okq (⟨"OneOfEachModel", "allSocks", "()I"⟩, 20) := ⟨⟨by decide +kernel, by decide +kernel⟩, List.mem_of_getElem? (i := 758) (by decide +kernel), List.mem_of_getElem? (i := 908) (by decide +kernel), List.mem_of_getElem? (i := 909) (by decide +kernel)⟩
theorem lw_p31 : lw_okq (⟨"OneOfEachModel", "inPlace", "(I)I"⟩, 20) := ⟨⟨by decide +kernel, by decide +kernel⟩, List.mem_of_getElem? (i := 758) (by decide +kernel), List.mem_of_getElem? (i := 915) (by decide +kernel), List.mem_of_getElem? (i := 916) (by decide +kernel)⟩
def lw_privs_2 : List (MethodName × Nat) := [(⟨"OneOfEach$Owning", "deal", "(III)V"⟩, 1), (⟨"OneOfEach$Owning", "sumAsTold", "(LOneOfEach$House;II)J"⟩, 1), (⟨"OneOfEach$Threads", "search", "(II)I"⟩, 4), (⟨"OneOfEach$Threads", "compare", "(II)V"⟩, 4), (⟨"OneOfEachModel", "add", "(IIIII)V"⟩, 20), (⟨"OneOfEachModel", "put", "(III)V"⟩, 20), (⟨"OneOfEachModel", "readSocks", "()Z"⟩, 20), (⟨"OneOfEachModel", "readSock", "(I)Z"⟩, 20), (⟨"OneOfEachModel", "nextByte", "()I"⟩, 20), (⟨"OneOfEachModel", "readNumber", "(II)I"⟩, 20), (⟨"OneOfEachModel", "takes", "(I)Z"⟩, 20), (⟨"OneOfEachModel", "readLodgers", "()I"⟩, 20), (⟨"OneOfEachModel", "isSock", "(I)Z"⟩, 20), (⟨"OneOfEachModel", "of", "(II)I"⟩, 20), (⟨"OneOfEachModel", "allSocks", "()I"⟩, 20), (⟨"OneOfEachModel", "inPlace", "(I)I"⟩, 20)]
theorem lw_r2 : ∀ q ∈ lw_privs_2, lw_okq q := List.forall_mem_cons.mpr ⟨lw_p16, List.forall_mem_cons.mpr ⟨lw_p17, List.forall_mem_cons.mpr ⟨lw_p18, List.forall_mem_cons.mpr ⟨lw_p19, List.forall_mem_cons.mpr ⟨lw_p20, List.forall_mem_cons.mpr ⟨lw_p21, List.forall_mem_cons.mpr ⟨lw_p22, List.forall_mem_cons.mpr ⟨lw_p23, List.forall_mem_cons.mpr ⟨lw_p24, List.forall_mem_cons.mpr ⟨lw_p25, List.forall_mem_cons.mpr ⟨lw_p26, List.forall_mem_cons.mpr ⟨lw_p27, List.forall_mem_cons.mpr ⟨lw_p28, List.forall_mem_cons.mpr ⟨lw_p29, List.forall_mem_cons.mpr ⟨lw_p30, List.forall_mem_cons.mpr ⟨lw_p31, fun _ h => absurd h List.not_mem_nil⟩⟩⟩⟩⟩⟩⟩⟩⟩⟩⟩⟩⟩⟩⟩⟩
theorem lw_p32 : lw_okq (⟨"OneOfEachModel", "faded", "(II)I"⟩, 20) := ⟨⟨by decide +kernel, by decide +kernel⟩, List.mem_of_getElem? (i := 758) (by decide +kernel), List.mem_of_getElem? (i := 919) (by decide +kernel), List.mem_of_getElem? (i := 920) (by decide +kernel)⟩
theorem lw_p33 : lw_okq (⟨"OneOfEachModel", "part2", "(I)V"⟩, 20) := ⟨⟨by decide +kernel, by decide +kernel⟩, List.mem_of_getElem? (i := 758) (by decide +kernel), List.mem_of_getElem? (i := 923) (by decide +kernel), List.mem_of_getElem? (i := 924) (by decide +kernel)⟩
theorem lw_p34 : lw_okq (⟨"OneOfEachModel", "areTwo", "(II)Z"⟩, 20) := ⟨⟨by decide +kernel, by decide +kernel⟩, List.mem_of_getElem? (i := 758) (by decide +kernel), List.mem_of_getElem? (i := 938) (by decide +kernel), List.mem_of_getElem? (i := 939) (by decide +kernel)⟩
theorem lw_p35 : lw_okq (⟨"OneOfEachModel", "alikeOf", "(II)I"⟩, 20) := ⟨⟨by decide +kernel, by decide +kernel⟩, List.mem_of_getElem? (i := 758) (by decide +kernel), List.mem_of_getElem? (i := 942) (by decide +kernel), List.mem_of_getElem? (i := 943) (by decide +kernel)⟩
theorem lw_p36 : lw_okq (⟨"OneOfEachModel", "bars", "(II)I"⟩, 20) := ⟨⟨by decide +kernel, by decide +kernel⟩, List.mem_of_getElem? (i := 758) (by decide +kernel), List.mem_of_getElem? (i := 953) (by decide +kernel), List.mem_of_getElem? (i := 954) (by decide +kernel)⟩
theorem lw_p37 : lw_okq (⟨"OneOfEachModel", "lostOf", "(II)I"⟩, 20) := ⟨⟨by decide +kernel, by decide +kernel⟩, List.mem_of_getElem? (i := 758) (by decide +kernel), List.mem_of_getElem? (i := 961) (by decide +kernel), List.mem_of_getElem? (i := 962) (by decide +kernel)⟩
theorem lw_p38 : lw_okq (⟨"OneOfEachModel", "findPairs", "()V"⟩, 20) := ⟨⟨by decide +kernel, by decide +kernel⟩, List.mem_of_getElem? (i := 758) (by decide +kernel), List.mem_of_getElem? (i := 969) (by decide +kernel), List.mem_of_getElem? (i := 970) (by decide +kernel)⟩
theorem lw_p39 : lw_okq (⟨"OneOfEachModel", "worthBy", "(III)I"⟩, 20) := ⟨⟨by decide +kernel, by decide +kernel⟩, List.mem_of_getElem? (i := 758) (by decide +kernel), List.mem_of_getElem? (i := 976) (by decide +kernel), List.mem_of_getElem? (i := 977) (by decide +kernel)⟩
theorem lw_p40 : lw_okq (⟨"OneOfEachModel", "distance", "(II)I"⟩, 20) := ⟨⟨by decide +kernel, by decide +kernel⟩, List.mem_of_getElem? (i := 758) (by decide +kernel), List.mem_of_getElem? (i := 980) (by decide +kernel), List.mem_of_getElem? (i := 981) (by decide +kernel)⟩
theorem lw_p41 : lw_okq (⟨"OneOfEachModel", "lacksRow", "(IIII)I"⟩, 20) := ⟨⟨by decide +kernel, by decide +kernel⟩, List.mem_of_getElem? (i := 758) (by decide +kernel), List.mem_of_getElem? (i := 1004) (by decide +kernel), List.mem_of_getElem? (i := 1005) (by decide +kernel)⟩
theorem lw_p42 : lw_okq (⟨"OneOfEachModel", "findWorths", "(IIIIII)I"⟩, 20) := ⟨⟨by decide +kernel, by decide +kernel⟩, List.mem_of_getElem? (i := 758) (by decide +kernel), List.mem_of_getElem? (i := 1012) (by decide +kernel), List.mem_of_getElem? (i := 1013) (by decide +kernel)⟩
theorem lw_p43 : lw_okq (⟨"OneOfEachModel", "boxOf", "(II)I"⟩, 20) := ⟨⟨by decide +kernel, by decide +kernel⟩, List.mem_of_getElem? (i := 758) (by decide +kernel), List.mem_of_getElem? (i := 1030) (by decide +kernel), List.mem_of_getElem? (i := 1031) (by decide +kernel)⟩
theorem lw_p44 : lw_okq (⟨"OneOfEachModel", "unpaired", "(II)I"⟩, 20) := ⟨⟨by decide +kernel, by decide +kernel⟩, List.mem_of_getElem? (i := 758) (by decide +kernel), List.mem_of_getElem? (i := 1038) (by decide +kernel), List.mem_of_getElem? (i := 1039) (by decide +kernel)⟩
theorem lw_p45 : lw_okq (⟨"OneOfEachModel", "allWays", "(II)J"⟩, 20) := ⟨⟨by decide +kernel, by decide +kernel⟩, List.mem_of_getElem? (i := 758) (by decide +kernel), List.mem_of_getElem? (i := 1061) (by decide +kernel), List.mem_of_getElem? (i := 1062) (by decide +kernel)⟩
theorem lw_p46 : lw_okq (⟨"OneOfEachModel", "waysOf", "(III)J"⟩, 20) := ⟨⟨by decide +kernel, by decide +kernel⟩, List.mem_of_getElem? (i := 758) (by decide +kernel), List.mem_of_getElem? (i := 1065) (by decide +kernel), List.mem_of_getElem? (i := 1066) (by decide +kernel)⟩
theorem lw_p47 : lw_okq (⟨"OneOfEachModel", "sizeOf", "(I)I"⟩, 20) := ⟨⟨by decide +kernel, by decide +kernel⟩, List.mem_of_getElem? (i := 758) (by decide +kernel), List.mem_of_getElem? (i := 1069) (by decide +kernel), List.mem_of_getElem? (i := 1070) (by decide +kernel)⟩
def lw_privs_3 : List (MethodName × Nat) := [(⟨"OneOfEachModel", "faded", "(II)I"⟩, 20), (⟨"OneOfEachModel", "part2", "(I)V"⟩, 20), (⟨"OneOfEachModel", "areTwo", "(II)Z"⟩, 20), (⟨"OneOfEachModel", "alikeOf", "(II)I"⟩, 20), (⟨"OneOfEachModel", "bars", "(II)I"⟩, 20), (⟨"OneOfEachModel", "lostOf", "(II)I"⟩, 20), (⟨"OneOfEachModel", "findPairs", "()V"⟩, 20), (⟨"OneOfEachModel", "worthBy", "(III)I"⟩, 20), (⟨"OneOfEachModel", "distance", "(II)I"⟩, 20), (⟨"OneOfEachModel", "lacksRow", "(IIII)I"⟩, 20), (⟨"OneOfEachModel", "findWorths", "(IIIIII)I"⟩, 20), (⟨"OneOfEachModel", "boxOf", "(II)I"⟩, 20), (⟨"OneOfEachModel", "unpaired", "(II)I"⟩, 20), (⟨"OneOfEachModel", "allWays", "(II)J"⟩, 20), (⟨"OneOfEachModel", "waysOf", "(III)J"⟩, 20), (⟨"OneOfEachModel", "sizeOf", "(I)I"⟩, 20)]
theorem lw_r3 : ∀ q ∈ lw_privs_3, lw_okq q := List.forall_mem_cons.mpr ⟨lw_p32, List.forall_mem_cons.mpr ⟨lw_p33, List.forall_mem_cons.mpr ⟨lw_p34, List.forall_mem_cons.mpr ⟨lw_p35, List.forall_mem_cons.mpr ⟨lw_p36, List.forall_mem_cons.mpr ⟨lw_p37, List.forall_mem_cons.mpr ⟨lw_p38, List.forall_mem_cons.mpr ⟨lw_p39, List.forall_mem_cons.mpr ⟨lw_p40, List.forall_mem_cons.mpr ⟨lw_p41, List.forall_mem_cons.mpr ⟨lw_p42, List.forall_mem_cons.mpr ⟨lw_p43, List.forall_mem_cons.mpr ⟨lw_p44, List.forall_mem_cons.mpr ⟨lw_p45, List.forall_mem_cons.mpr ⟨lw_p46, List.forall_mem_cons.mpr ⟨lw_p47, fun _ h => absurd h List.not_mem_nil⟩⟩⟩⟩⟩⟩⟩⟩⟩⟩⟩⟩⟩⟩⟩⟩
theorem lw_p48 : lw_okq (⟨"OneOfEachModel", "mayOf", "(III)I"⟩, 20) := ⟨⟨by decide +kernel, by decide +kernel⟩, List.mem_of_getElem? (i := 758) (by decide +kernel), List.mem_of_getElem? (i := 1073) (by decide +kernel), List.mem_of_getElem? (i := 1074) (by decide +kernel)⟩
theorem lw_p49 : lw_okq (⟨"OneOfEachModel", "isOwned", "(III)Z"⟩, 20) := ⟨⟨by decide +kernel, by decide +kernel⟩, List.mem_of_getElem? (i := 758) (by decide +kernel), List.mem_of_getElem? (i := 1077) (by decide +kernel), List.mem_of_getElem? (i := 1078) (by decide +kernel)⟩
theorem lw_p50 : lw_okq (⟨"OneOfEachModel", "findMarks", "(III)Z"⟩, 20) := ⟨⟨by decide +kernel, by decide +kernel⟩, List.mem_of_getElem? (i := 758) (by decide +kernel), List.mem_of_getElem? (i := 1106) (by decide +kernel), List.mem_of_getElem? (i := 1107) (by decide +kernel)⟩
def lw_privs_4 : List (MethodName × Nat) := [(⟨"OneOfEachModel", "mayOf", "(III)I"⟩, 20), (⟨"OneOfEachModel", "isOwned", "(III)Z"⟩, 20), (⟨"OneOfEachModel", "findMarks", "(III)Z"⟩, 20)]
theorem lw_r4 : ∀ q ∈ lw_privs_4, lw_okq q := List.forall_mem_cons.mpr ⟨lw_p48, List.forall_mem_cons.mpr ⟨lw_p49, List.forall_mem_cons.mpr ⟨lw_p50, fun _ h => absurd h List.not_mem_nil⟩⟩⟩
def lw_privs : List (MethodName × Nat) := lw_privs_1 ++ (lw_privs_2 ++ (lw_privs_3 ++ (lw_privs_4)))
def lw_tbl : List Cond := k2_sels lw_privs ++ tables_1
theorem lw_privs_ok : ∀ q ∈ lw_privs, lw_okq q := by
  show ∀ q ∈ lw_privs_1 ++ (lw_privs_2 ++ (lw_privs_3 ++ (lw_privs_4))), lw_okq q
  exact List.forall_mem_append.mpr ⟨lw_r1, List.forall_mem_append.mpr ⟨lw_r2, List.forall_mem_append.mpr ⟨lw_r3, lw_r4⟩⟩⟩

def RX0 : String := "OneOfEach$Dark"
def TX0 : u_T := fun k => match k with
  | 0 => ("OneOfEach$Dark", "pairless", "[J", true)
  | _ => ("OneOfEach$Dark", "box", "I", false)
def tyX0 : Nat → FieldType := fun k => match k with
  | 0 => .array .long
  | _ => .int
abbrev wsX00 : List Cond := u_ws RX0 TX0 2
theorem nmX0 : ∀ a, a < 2 → ∀ b, b < 2 → a ≠ b → (TX0 a).2.1 ≠ (TX0 b).2.1 := by decide +kernel
theorem tyX0_ok : ∀ k, k < 2 → parseFieldDescriptor (TX0 k).2.2.1 = some (tyX0 k) := by decide +kernel
abbrev cX0_init : ByteArray := prog_2_method_1_code
def yX0_init : MethodName := ⟨RX0, "<init>", "()V"⟩
abbrev cX0_lay : ByteArray := prog_2_method_2_code
def yX0_lay : MethodName := ⟨RX0, "lay", "(LOneOfEach$House;)V"⟩
abbrev cX0_addKind : ByteArray := prog_2_method_3_code
def yX0_addKind : MethodName := ⟨RX0, "addKind", "(IIZ)V"⟩
abbrev cX0_setsWithoutPair : ByteArray := prog_2_method_4_code
def yX0_setsWithoutPair : MethodName := ⟨RX0, "setsWithoutPair", "(IIZI)J"⟩
abbrev cX0_longestPairless : ByteArray := prog_2_method_5_code
def yX0_longestPairless : MethodName := ⟨RX0, "longestPairless", "()I"⟩
def RX1 : String := "OneOfEach$House"
def TX1 : u_T := fun k => match k with
  | 0 => ("OneOfEach$House", "socks", "[LOneOfEach$Sock;", true)
  | 1 => ("OneOfEach$House", "size", "I", false)
  | 2 => ("OneOfEach$House", "went", "[I", true)
  | 3 => ("OneOfEach$House", "stayed", "[I", true)
  | 4 => ("OneOfEach$House", "mondays", "I", false)
  | 5 => ("OneOfEach$House", "fades", "[I", true)
  | 6 => ("OneOfEach$House", "likeness", "I", false)
  | 7 => ("OneOfEach$House", "handed", "I", false)
  | 8 => ("OneOfEach$House", "least", "[I", true)
  | 9 => ("OneOfEach$House", "most", "[I", true)
  | _ => ("OneOfEach$House", "wishes", "[I", true)
def tyX1 : Nat → FieldType := fun k => match k with
  | 0 => .array (.object "OneOfEach$Sock")
  | 1 => .int
  | 2 => .array .int
  | 3 => .array .int
  | 4 => .int
  | 5 => .array .int
  | 6 => .int
  | 7 => .int
  | 8 => .array .int
  | 9 => .array .int
  | _ => .array .int
abbrev wsX10 : List Cond := u_ws RX1 TX1 11
theorem nmX1 : ∀ a, a < 11 → ∀ b, b < 11 → a ≠ b → (TX1 a).2.1 ≠ (TX1 b).2.1 := by decide +kernel
theorem tyX1_ok : ∀ k, k < 11 → parseFieldDescriptor (TX1 k).2.2.1 = some (tyX1 k) := by decide +kernel
abbrev cX1_init : ByteArray := prog_3_method_1_code
def yX1_init : MethodName := ⟨RX1, "<init>", "()V"⟩
abbrev cX1_copyFrom : ByteArray := prog_3_method_2_code
def yX1_copyFrom : MethodName := ⟨RX1, "copyFrom", "(LOneOfEach$House;)V"⟩
abbrev cX1_add : ByteArray := prog_3_method_3_code
def yX1_add : MethodName := ⟨RX1, "add", "(LOneOfEach$Sock;)I"⟩
abbrev cX1_everyone : ByteArray := prog_3_method_4_code
def yX1_everyone : MethodName := ⟨RX1, "everyone", "()I"⟩
abbrev cX1_having : ByteArray := prog_3_method_5_code
def yX1_having : MethodName := ⟨RX1, "having", "(II)I"⟩
abbrev cX1_placed : ByteArray := prog_3_method_6_code
def yX1_placed : MethodName := ⟨RX1, "placed", "(I)I"⟩
abbrev cX1_outingsOf : ByteArray := prog_3_method_7_code
def yX1_outingsOf : MethodName := ⟨RX1, "outingsOf", "(I)I"⟩
abbrev cX1_canGo : ByteArray := prog_3_method_8_code
def yX1_canGo : MethodName := ⟨RX1, "canGo", "(I)Z"⟩
abbrev cX1_wash : ByteArray := prog_3_method_9_code
def yX1_wash : MethodName := ⟨RX1, "wash", "(II)I"⟩
abbrev cX1_unpair : ByteArray := prog_3_method_10_code
def yX1_unpair : MethodName := ⟨RX1, "unpair", "(I)I"⟩
abbrev cX1_likenessOf : ByteArray := prog_3_method_11_code
def yX1_likenessOf : MethodName := ⟨RX1, "likenessOf", "(II)I"⟩
abbrev cX1_bars : ByteArray := prog_3_method_12_code
def yX1_bars : MethodName := ⟨RX1, "bars", "(II)I"⟩
abbrev cX1_wereParted : ByteArray := prog_3_method_13_code
def yX1_wereParted : MethodName := ⟨RX1, "wereParted", "(II)Z"⟩
abbrev cX1_distance : ByteArray := prog_3_method_14_code
def yX1_distance : MethodName := ⟨RX1, "distance", "(II)I"⟩
abbrev cX1_join : ByteArray := prog_3_method_15_code
def yX1_join : MethodName := ⟨RX1, "join", "(II)Z"⟩
abbrev cX1_boundTo : ByteArray := prog_3_method_16_code
def yX1_boundTo : MethodName := ⟨RX1, "boundTo", "(I)I"⟩
abbrev cX1_meetsAllWishes : ByteArray := prog_3_method_17_code
def yX1_meetsAllWishes : MethodName := ⟨RX1, "meetsAllWishes", "(I)Z"⟩
def RX2 : String := "OneOfEach$Owning"
def TX2 : u_T := fun k => match k with
  | _ => ("OneOfEach$Owning", "grid", "[J", true)
def tyX2 : Nat → FieldType := fun k => match k with
  | _ => .array .long
abbrev wsX20 : List Cond := u_ws RX2 TX2 1
theorem nmX2 : ∀ a, a < 1 → ∀ b, b < 1 → a ≠ b → (TX2 a).2.1 ≠ (TX2 b).2.1 := by decide +kernel
theorem tyX2_ok : ∀ k, k < 1 → parseFieldDescriptor (TX2 k).2.2.1 = some (tyX2 k) := by decide +kernel
abbrev cX2_init : ByteArray := prog_4_method_1_code
def yX2_init : MethodName := ⟨RX2, "<init>", "()V"⟩
abbrev cX2_waysIf : ByteArray := prog_4_method_2_code
def yX2_waysIf : MethodName := ⟨RX2, "waysIf", "(LOneOfEach$House;II)J"⟩
abbrev cX2_dealKind : ByteArray := prog_4_method_3_code
def yX2_dealKind : MethodName := ⟨RX2, "dealKind", "(LOneOfEach$House;III)I"⟩
abbrev cX2_ownersOf : ByteArray := prog_4_method_4_code
def yX2_ownersOf : MethodName := ⟨RX2, "ownersOf", "(LOneOfEach$House;III)I"⟩
abbrev cX2_deal : ByteArray := prog_4_method_5_code
def yX2_deal : MethodName := ⟨RX2, "deal", "(III)V"⟩
abbrev cX2_sumAsTold : ByteArray := prog_4_method_6_code
def yX2_sumAsTold : MethodName := ⟨RX2, "sumAsTold", "(LOneOfEach$House;II)J"⟩
abbrev cX2_isAsTold : ByteArray := prog_4_method_7_code
def yX2_isAsTold : MethodName := ⟨RX2, "isAsTold", "(LOneOfEach$House;II)Z"⟩
def RX3 : String := "OneOfEach$Pairing"
def TX3 : u_T := fun k => match k with
  | 0 => ("OneOfEach$Pairing", "gains", "[I", true)
  | 1 => ("OneOfEach$Pairing", "known", "[I", true)
  | 2 => ("OneOfEach$Pairing", "partner", "[I", true)
  | 3 => ("OneOfEach$Pairing", "made", "I", false)
  | _ => ("OneOfEach$Pairing", "distance", "I", false)
def tyX3 : Nat → FieldType := fun k => match k with
  | 0 => .array .int
  | 1 => .array .int
  | 2 => .array .int
  | 3 => .int
  | _ => .int
abbrev wsX30 : List Cond := u_ws RX3 TX3 5
theorem nmX3 : ∀ a, a < 5 → ∀ b, b < 5 → a ≠ b → (TX3 a).2.1 ≠ (TX3 b).2.1 := by decide +kernel
theorem tyX3_ok : ∀ k, k < 5 → parseFieldDescriptor (TX3 k).2.2.1 = some (tyX3 k) := by decide +kernel
abbrev cX3_init : ByteArray := prog_5_method_1_code
def yX3_init : MethodName := ⟨RX3, "<init>", "()V"⟩
abbrev cX3_make : ByteArray := prog_5_method_2_code
def yX3_make : MethodName := ⟨RX3, "make", "(LOneOfEach$House;)V"⟩
abbrev cX3_weigh : ByteArray := prog_5_method_3_code
def yX3_weigh : MethodName := ⟨RX3, "weigh", "(LOneOfEach$House;I)V"⟩
abbrev cX3_mostGain : ByteArray := prog_5_method_4_code
def yX3_mostGain : MethodName := ⟨RX3, "mostGain", "(III[I[I)I"⟩
abbrev cX3_trace : ByteArray := prog_5_method_5_code
def yX3_trace : MethodName := ⟨RX3, "trace", "(LOneOfEach$House;I)V"⟩
abbrev cX3_firstFellow : ByteArray := prog_5_method_6_code
def yX3_firstFellow : MethodName := ⟨RX3, "firstFellow", "(III)I"⟩
def RX4 : String := "OneOfEach$Sheet"
def TX4 : u_T := fun k => match k with
  | 0 => ("OneOfEach$Sheet", "items", "[I", true)
  | 1 => ("OneOfEach$Sheet", "lane", "I", false)
  | _ => ("OneOfEach$Sheet", "length", "I", false)
def tyX4 : Nat → FieldType := fun k => match k with
  | 0 => .array .int
  | 1 => .int
  | _ => .int
abbrev wsX40 : List Cond := u_ws RX4 TX4 3
theorem nmX4 : ∀ a, a < 3 → ∀ b, b < 3 → a ≠ b → (TX4 a).2.1 ≠ (TX4 b).2.1 := by decide +kernel
theorem tyX4_ok : ∀ k, k < 3 → parseFieldDescriptor (TX4 k).2.2.1 = some (tyX4 k) := by decide +kernel
abbrev cX4_init : ByteArray := prog_6_method_1_code
def yX4_init : MethodName := ⟨RX4, "<init>", "()V"⟩
abbrev cX4_isThere : ByteArray := prog_6_method_2_code
def yX4_isThere : MethodName := ⟨RX4, "isThere", "()Z"⟩
abbrev cX4_renew : ByteArray := prog_6_method_3_code
def yX4_renew : MethodName := ⟨RX4, "renew", "(II)V"⟩
abbrev cX4_refusal : ByteArray := prog_6_method_4_code
def yX4_refusal : MethodName := ⟨RX4, "refusal", "(III)I"⟩
abbrev cX4_put : ByteArray := prog_6_method_5_code
def yX4_put : MethodName := ⟨RX4, "put", "(II)V"⟩
def RX5 : String := "OneOfEach$Sock"
def TX5 : u_T := fun k => match k with
  | 0 => ("OneOfEach$Sock", "kind", "I", false)
  | 1 => ("OneOfEach$Sock", "hand", "I", false)
  | 2 => ("OneOfEach$Sock", "low", "I", false)
  | 3 => ("OneOfEach$Sock", "high", "I", false)
  | 4 => ("OneOfEach$Sock", "where", "I", false)
  | 5 => ("OneOfEach$Sock", "other", "I", false)
  | 6 => ("OneOfEach$Sock", "since", "I", false)
  | 7 => ("OneOfEach$Sock", "lodgers", "I", false)
  | _ => ("OneOfEach$Sock", "bond", "I", false)
def tyX5 : Nat → FieldType := fun k => match k with
  | 0 => .int
  | 1 => .int
  | 2 => .int
  | 3 => .int
  | 4 => .int
  | 5 => .int
  | 6 => .int
  | 7 => .int
  | _ => .int
abbrev wsX50 : List Cond := u_ws RX5 TX5 9
theorem nmX5 : ∀ a, a < 9 → ∀ b, b < 9 → a ≠ b → (TX5 a).2.1 ≠ (TX5 b).2.1 := by decide +kernel
theorem tyX5_ok : ∀ k, k < 9 → parseFieldDescriptor (TX5 k).2.2.1 = some (tyX5 k) := by decide +kernel
abbrev cX5_init : ByteArray := prog_7_method_1_code
def yX5_init : MethodName := ⟨RX5, "<init>", "()V"⟩
abbrev cX5_begin : ByteArray := prog_7_method_2_code
def yX5_begin : MethodName := ⟨RX5, "begin", "(IIIII)V"⟩
abbrev cX5_trait : ByteArray := prog_7_method_3_code
def yX5_trait : MethodName := ⟨RX5, "trait", "(I)I"⟩
abbrev cX5_toBox : ByteArray := prog_7_method_4_code
def yX5_toBox : MethodName := ⟨RX5, "toBox", "()V"⟩
abbrev cX5_toPair : ByteArray := prog_7_method_5_code
def yX5_toPair : MethodName := ⟨RX5, "toPair", "(I)V"⟩
abbrev cX5_toLost : ByteArray := prog_7_method_6_code
def yX5_toLost : MethodName := ⟨RX5, "toLost", "(I)V"⟩
abbrev cX5_wear : ByteArray := prog_7_method_7_code
def yX5_wear : MethodName := ⟨RX5, "wear", "(I)V"⟩
abbrev cX5_copyFrom : ByteArray := prog_7_method_8_code
def yX5_copyFrom : MethodName := ⟨RX5, "copyFrom", "(LOneOfEach$Sock;)V"⟩
def RX6 : String := "OneOfEach$Tape"
def TX6 : u_T := fun k => match k with
  | 0 => ("OneOfEach$Tape", "bytes", "[I", true)
  | 1 => ("OneOfEach$Tape", "length", "I", false)
  | 2 => ("OneOfEach$Tape", "place", "I", false)
  | _ => ("OneOfEach$Tape", "drafts", "[LOneOfEach$Sock;", true)
def tyX6 : Nat → FieldType := fun k => match k with
  | 0 => .array .int
  | 1 => .int
  | 2 => .int
  | _ => .array (.object "OneOfEach$Sock")
abbrev wsX60 : List Cond := u_ws RX6 TX6 4
theorem nmX6 : ∀ a, a < 4 → ∀ b, b < 4 → a ≠ b → (TX6 a).2.1 ≠ (TX6 b).2.1 := by decide +kernel
theorem tyX6_ok : ∀ k, k < 4 → parseFieldDescriptor (TX6 k).2.2.1 = some (tyX6 k) := by decide +kernel
abbrev cX6_init : ByteArray := prog_8_method_1_code
def yX6_init : MethodName := ⟨RX6, "<init>", "()V"⟩
abbrev cX6_append : ByteArray := prog_8_method_2_code
def yX6_append : MethodName := ⟨RX6, "append", "(JI)I"⟩
abbrev cX6_byteOf : ByteArray := prog_8_method_3_code
def yX6_byteOf : MethodName := ⟨RX6, "byteOf", "(JI)I"⟩
abbrev cX6_read : ByteArray := prog_8_method_4_code
def yX6_read : MethodName := ⟨RX6, "read", "()I"⟩
abbrev cX6_readSock : ByteArray := prog_8_method_5_code
def yX6_readSock : MethodName := ⟨RX6, "readSock", "(LOneOfEach$Sock;)I"⟩
abbrev cX6_nextSign : ByteArray := prog_8_method_6_code
def yX6_nextSign : MethodName := ⟨RX6, "nextSign", "()I"⟩
abbrev cX6_skipSign : ByteArray := prog_8_method_7_code
def yX6_skipSign : MethodName := ⟨RX6, "skipSign", "(I)Z"⟩
abbrev cX6_readKind : ByteArray := prog_8_method_8_code
def yX6_readKind : MethodName := ⟨RX6, "readKind", "()I"⟩
abbrev cX6_readHand : ByteArray := prog_8_method_9_code
def yX6_readHand : MethodName := ⟨RX6, "readHand", "()I"⟩
abbrev cX6_readNumber : ByteArray := prog_8_method_10_code
def yX6_readNumber : MethodName := ⟨RX6, "readNumber", "(I)I"⟩
abbrev cX6_readLodgers : ByteArray := prog_8_method_11_code
def yX6_readLodgers : MethodName := ⟨RX6, "readLodgers", "()I"⟩
def RX7 : String := "OneOfEach$Threads"
def TX7 : u_T := fun k => match k with
  | 0 => ("OneOfEach$Threads", "answers", "[I", true)
  | 1 => ("OneOfEach$Threads", "rows", "[I", true)
  | 2 => ("OneOfEach$Threads", "row", "[I", true)
  | _ => ("OneOfEach$Threads", "apart", "[J", true)
def tyX7 : Nat → FieldType := fun k => match k with
  | 0 => .array .int
  | 1 => .array .int
  | 2 => .array .int
  | _ => .array .long
abbrev wsX70 : List Cond := u_ws RX7 TX7 4
theorem nmX7 : ∀ a, a < 4 → ∀ b, b < 4 → a ≠ b → (TX7 a).2.1 ≠ (TX7 b).2.1 := by decide +kernel
theorem tyX7_ok : ∀ k, k < 4 → parseFieldDescriptor (TX7 k).2.2.1 = some (tyX7 k) := by decide +kernel
abbrev cX7_init : ByteArray := prog_9_method_1_code
def yX7_init : MethodName := ⟨RX7, "<init>", "()V"⟩
abbrev cX7_fewest : ByteArray := prog_9_method_2_code
def yX7_fewest : MethodName := ⟨RX7, "fewest", "(II)I"⟩
abbrev cX7_markOf : ByteArray := prog_9_method_3_code
def yX7_markOf : MethodName := ⟨RX7, "markOf", "(III)I"⟩
abbrev cX7_search : ByteArray := prog_9_method_4_code
def yX7_search : MethodName := ⟨RX7, "search", "(II)I"⟩
abbrev cX7_compare : ByteArray := prog_9_method_5_code
def yX7_compare : MethodName := ⟨RX7, "compare", "(II)V"⟩
abbrev cX7_extend : ByteArray := prog_9_method_6_code
def yX7_extend : MethodName := ⟨RX7, "extend", "(IIJ[J[I)Z"⟩
def RX8 : String := "OneOfEach$Weeks"
def TX8 : u_T := fun k => match k with
  | 0 => ("OneOfEach$Weeks", "chances", "[I", true)
  | 1 => ("OneOfEach$Weeks", "above", "[J", true)
  | 2 => ("OneOfEach$Weeks", "below", "J", false)
  | _ => ("OneOfEach$Weeks", "n", "I", false)
def tyX8 : Nat → FieldType := fun k => match k with
  | 0 => .array .int
  | 1 => .array .long
  | 2 => .long
  | _ => .int
abbrev wsX80 : List Cond := u_ws RX8 TX8 4
theorem nmX8 : ∀ a, a < 4 → ∀ b, b < 4 → a ≠ b → (TX8 a).2.1 ≠ (TX8 b).2.1 := by decide +kernel
theorem tyX8_ok : ∀ k, k < 4 → parseFieldDescriptor (TX8 k).2.2.1 = some (tyX8 k) := by decide +kernel
abbrev cX8_init : ByteArray := prog_10_method_1_code
def yX8_init : MethodName := ⟨RX8, "<init>", "()V"⟩
abbrev cX8_takeChances : ByteArray := prog_10_method_2_code
def yX8_takeChances : MethodName := ⟨RX8, "takeChances", "(LOneOfEach$Sheet;II)Z"⟩
abbrev cX8_reckon : ByteArray := prog_10_method_3_code
def yX8_reckon : MethodName := ⟨RX8, "reckon", "(II)V"⟩
abbrev cX8_firstWorthless : ByteArray := prog_10_method_4_code
def yX8_firstWorthless : MethodName := ⟨RX8, "firstWorthless", "()I"⟩
def RX9 : String := "OneOfEach"
def TX9 : u_T := fun k => match k with
  | 0 => ("OneOfEach", "house", "LOneOfEach$House;", true)
  | 1 => ("OneOfEach", "kept", "LOneOfEach$House;", true)
  | 2 => ("OneOfEach", "hasImage", "Z", false)
  | 3 => ("OneOfEach", "tape", "LOneOfEach$Tape;", true)
  | 4 => ("OneOfEach", "draft", "LOneOfEach$Sock;", true)
  | 5 => ("OneOfEach", "pairing", "LOneOfEach$Pairing;", true)
  | 6 => ("OneOfEach", "weeks", "LOneOfEach$Weeks;", true)
  | 7 => ("OneOfEach", "dark", "LOneOfEach$Dark;", true)
  | 8 => ("OneOfEach", "owning", "LOneOfEach$Owning;", true)
  | 9 => ("OneOfEach", "threads", "LOneOfEach$Threads;", true)
  | _ => ("OneOfEach", "sheets", "[LOneOfEach$Sheet;", true)
def tyX9 : Nat → FieldType := fun k => match k with
  | 0 => .object "OneOfEach$House"
  | 1 => .object "OneOfEach$House"
  | 2 => .boolean
  | 3 => .object "OneOfEach$Tape"
  | 4 => .object "OneOfEach$Sock"
  | 5 => .object "OneOfEach$Pairing"
  | 6 => .object "OneOfEach$Weeks"
  | 7 => .object "OneOfEach$Dark"
  | 8 => .object "OneOfEach$Owning"
  | 9 => .object "OneOfEach$Threads"
  | _ => .array (.object "OneOfEach$Sheet")
abbrev wsX90 : List Cond := u_ws RX9 TX9 11
theorem nmX9 : ∀ a, a < 11 → ∀ b, b < 11 → a ≠ b → (TX9 a).2.1 ≠ (TX9 b).2.1 := by decide +kernel
theorem tyX9_ok : ∀ k, k < 11 → parseFieldDescriptor (TX9 k).2.2.1 = some (tyX9 k) := by decide +kernel
abbrev cX9_init : ByteArray := prog_1_method_1_code
def yX9_init : MethodName := ⟨RX9, "<init>", "()V"⟩
abbrev cX9_sock : ByteArray := prog_1_method_2_code
def yX9_sock : MethodName := ⟨RX9, "sock", "(IIII)I"⟩
abbrev cX9_type : ByteArray := prog_1_method_3_code
def yX9_type : MethodName := ⟨RX9, "type", "(JI)I"⟩
abbrev cX9_socks : ByteArray := prog_1_method_4_code
def yX9_socks : MethodName := ⟨RX9, "socks", "()I"⟩
abbrev cX9_told : ByteArray := prog_1_method_5_code
def yX9_told : MethodName := ⟨RX9, "told", "(II)I"⟩
abbrev cX9_fade : ByteArray := prog_1_method_6_code
def yX9_fade : MethodName := ⟨RX9, "fade", "(II)I"⟩
abbrev cX9_set : ByteArray := prog_1_method_7_code
def yX9_set : MethodName := ⟨RX9, "set", "(II)I"⟩
abbrev cX9_monday : ByteArray := prog_1_method_8_code
def yX9_monday : MethodName := ⟨RX9, "monday", "(II)I"⟩
abbrev cX9_found : ByteArray := prog_1_method_9_code
def yX9_found : MethodName := ⟨RX9, "found", "(I)I"⟩
abbrev cX9_alike : ByteArray := prog_1_method_10_code
def yX9_alike : MethodName := ⟨RX9, "alike", "(II)I"⟩
abbrev cX9_fellows : ByteArray := prog_1_method_11_code
def yX9_fellows : MethodName := ⟨RX9, "fellows", "(II)I"⟩
abbrev cX9_count : ByteArray := prog_1_method_12_code
def yX9_count : MethodName := ⟨RX9, "count", "(I)I"⟩
abbrev cX9_pairs : ByteArray := prog_1_method_13_code
def yX9_pairs : MethodName := ⟨RX9, "pairs", "(I)I"⟩
abbrev cX9_fellow : ByteArray := prog_1_method_14_code
def yX9_fellow : MethodName := ⟨RX9, "fellow", "(I)I"⟩
abbrev cX9_pairUp : ByteArray := prog_1_method_15_code
def yX9_pairUp : MethodName := ⟨RX9, "pairUp", "()I"⟩
abbrev cX9_part : ByteArray := prog_1_method_16_code
def yX9_part : MethodName := ⟨RX9, "part", "(I)I"⟩
abbrev cX9_judge : ByteArray := prog_1_method_17_code
def yX9_judge : MethodName := ⟨RX9, "judge", "(III)I"⟩
abbrev cX9_thrown : ByteArray := prog_1_method_18_code
def yX9_thrown : MethodName := ⟨RX9, "thrown", "(IIIIII)I"⟩
abbrev cX9_worth : ByteArray := prog_1_method_19_code
def yX9_worth : MethodName := ⟨RX9, "worth", "(IIIIIII)J"⟩
abbrev cX9_worst : ByteArray := prog_1_method_20_code
def yX9_worst : MethodName := ⟨RX9, "worst", "()I"⟩
abbrev cX9_odds : ByteArray := prog_1_method_21_code
def yX9_odds : MethodName := ⟨RX9, "odds", "(II)I"⟩
abbrev cX9_owns : ByteArray := prog_1_method_22_code
def yX9_owns : MethodName := ⟨RX9, "owns", "(IIII)I"⟩
abbrev cX9_may : ByteArray := prog_1_method_23_code
def yX9_may : MethodName := ⟨RX9, "may", "(II)I"⟩
abbrev cX9_bind : ByteArray := prog_1_method_24_code
def yX9_bind : MethodName := ⟨RX9, "bind", "(II)I"⟩
abbrev cX9_ways : ByteArray := prog_1_method_25_code
def yX9_ways : MethodName := ⟨RX9, "ways", "()J"⟩
abbrev cX9_whose : ByteArray := prog_1_method_26_code
def yX9_whose : MethodName := ⟨RX9, "whose", "(I)I"⟩
abbrev cX9_seldom : ByteArray := prog_1_method_27_code
def yX9_seldom : MethodName := ⟨RX9, "seldom", "(I)I"⟩
abbrev cX9_lacks : ByteArray := prog_1_method_28_code
def yX9_lacks : MethodName := ⟨RX9, "lacks", "(II)I"⟩
abbrev cX9_wish : ByteArray := prog_1_method_29_code
def yX9_wish : MethodName := ⟨RX9, "wish", "(II)I"⟩
abbrev cX9_buy : ByteArray := prog_1_method_30_code
def yX9_buy : MethodName := ⟨RX9, "buy", "()I"⟩
abbrev cX9_marks : ByteArray := prog_1_method_31_code
def yX9_marks : MethodName := ⟨RX9, "marks", "(III)I"⟩
abbrev cX9_image : ByteArray := prog_1_method_32_code
def yX9_image : MethodName := ⟨RX9, "image", "()I"⟩
abbrev cX9_restore : ByteArray := prog_1_method_33_code
def yX9_restore : MethodName := ⟨RX9, "restore", "()I"⟩
abbrev cX9_sheet : ByteArray := prog_1_method_34_code
def yX9_sheet : MethodName := ⟨RX9, "sheet", "(III)I"⟩
abbrev cX9_drop : ByteArray := prog_1_method_35_code
def yX9_drop : MethodName := ⟨RX9, "drop", "(I)I"⟩
abbrev cX9_item : ByteArray := prog_1_method_36_code
def yX9_item : MethodName := ⟨RX9, "item", "(IIII)I"⟩
abbrev cX9_within : ByteArray := prog_1_method_37_code
def yX9_within : MethodName := ⟨RX9, "within", "(II)Z"⟩
abbrev cX9_isSock : ByteArray := prog_1_method_38_code
def yX9_isSock : MethodName := ⟨RX9, "isSock", "(I)Z"⟩
abbrev cX9_areTwo : ByteArray := prog_1_method_39_code
def yX9_areTwo : MethodName := ⟨RX9, "areTwo", "(II)Z"⟩
abbrev cX9_isWellTold : ByteArray := prog_1_method_40_code
def yX9_isWellTold : MethodName := ⟨RX9, "isWellTold", "(LOneOfEach$Sheet;II)Z"⟩
abbrev cX9_reckonWeeks : ByteArray := prog_1_method_41_code
def yX9_reckonWeeks : MethodName := ⟨RX9, "reckonWeeks", "(IIIIII)I"⟩
abbrev cX9_inLowestTerms : ByteArray := prog_1_method_42_code
def yX9_inLowestTerms : MethodName := ⟨RX9, "inLowestTerms", "(JJI)J"⟩
abbrev cX9_commonDivisor : ByteArray := prog_1_method_43_code
def yX9_commonDivisor : MethodName := ⟨RX9, "commonDivisor", "(JJ)J"⟩
abbrev cX9_choose : ByteArray := prog_1_method_44_code
def yX9_choose : MethodName := ⟨RX9, "choose", "(II)J"⟩
def RX10 : String := "OneOfEachModel"
def TX10 : u_T := fun k => match k with
  | 0 => ("OneOfEachModel", "z", "[I", true)
  | 1 => ("OneOfEachModel", "tape", "[I", true)
  | 2 => ("OneOfEachModel", "taped", "I", false)
  | 3 => ("OneOfEachModel", "at", "I", false)
  | 4 => ("OneOfEachModel", "reads", "I", false)
  | 5 => ("OneOfEachModel", "read", "[I", true)
  | 6 => ("OneOfEachModel", "best", "[I", true)
  | 7 => ("OneOfEachModel", "fellowOf", "[I", true)
  | 8 => ("OneOfEachModel", "worths", "[J", true)
  | 9 => ("OneOfEachModel", "belows", "[J", true)
  | 10 => ("OneOfEachModel", "without", "[I", true)
  | 11 => ("OneOfEachModel", "next", "[I", true)
  | 12 => ("OneOfEachModel", "owned", "[J", true)
  | 13 => ("OneOfEachModel", "then", "[J", true)
  | 14 => ("OneOfEachModel", "mark", "[I", true)
  | 15 => ("OneOfEachModel", "isKept", "Z", false)
  | 16 => ("OneOfEachModel", "kept", "[I", true)
  | 17 => ("OneOfEachModel", "lanes", "[I", true)
  | 18 => ("OneOfEachModel", "rowSizes", "[I", true)
  | _ => ("OneOfEachModel", "items", "[I", true)
def tyX10 : Nat → FieldType := fun k => match k with
  | 0 => .array .int
  | 1 => .array .int
  | 2 => .int
  | 3 => .int
  | 4 => .int
  | 5 => .array .int
  | 6 => .array .int
  | 7 => .array .int
  | 8 => .array .long
  | 9 => .array .long
  | 10 => .array .int
  | 11 => .array .int
  | 12 => .array .long
  | 13 => .array .long
  | 14 => .array .int
  | 15 => .boolean
  | 16 => .array .int
  | 17 => .array .int
  | 18 => .array .int
  | _ => .array .int
abbrev wsX100 : List Cond := u_ws RX10 TX10 20
theorem nmX10 : ∀ a, a < 20 → ∀ b, b < 20 → a ≠ b → (TX10 a).2.1 ≠ (TX10 b).2.1 := by decide +kernel
theorem tyX10_ok : ∀ k, k < 20 → parseFieldDescriptor (TX10 k).2.2.1 = some (tyX10 k) := by decide +kernel
abbrev cX10_in : ByteArray := prog_12_method_1_code
def yX10_in : MethodName := ⟨RX10, "in", "(JJJ)Z"⟩
abbrev cX10_init : ByteArray := prog_12_method_2_code
def yX10_init : MethodName := ⟨RX10, "<init>", "()V"⟩
abbrev cX10_of : ByteArray := prog_12_method_3_code
def yX10_of : MethodName := ⟨RX10, "of", "(II)I"⟩
abbrev cX10_put : ByteArray := prog_12_method_4_code
def yX10_put : MethodName := ⟨RX10, "put", "(III)V"⟩
abbrev cX10_isSock : ByteArray := prog_12_method_5_code
def yX10_isSock : MethodName := ⟨RX10, "isSock", "(I)Z"⟩
abbrev cX10_areTwo : ByteArray := prog_12_method_6_code
def yX10_areTwo : MethodName := ⟨RX10, "areTwo", "(II)Z"⟩
abbrev cX10_has : ByteArray := prog_12_method_7_code
def yX10_has : MethodName := ⟨RX10, "has", "(II)Z"⟩
abbrev cX10_allSocks : ByteArray := prog_12_method_8_code
def yX10_allSocks : MethodName := ⟨RX10, "allSocks", "()I"⟩
abbrev cX10_inPlace : ByteArray := prog_12_method_9_code
def yX10_inPlace : MethodName := ⟨RX10, "inPlace", "(I)I"⟩
abbrev cX10_ones : ByteArray := prog_12_method_10_code
def yX10_ones : MethodName := ⟨RX10, "ones", "(I)I"⟩
abbrev cX10_add : ByteArray := prog_12_method_11_code
def yX10_add : MethodName := ⟨RX10, "add", "(IIIII)V"⟩
abbrev cX10_sock : ByteArray := prog_12_method_12_code
def yX10_sock : MethodName := ⟨RX10, "sock", "(IIII)I"⟩
abbrev cX10_type : ByteArray := prog_12_method_13_code
def yX10_type : MethodName := ⟨RX10, "type", "(JI)I"⟩
abbrev cX10_nextByte : ByteArray := prog_12_method_14_code
def yX10_nextByte : MethodName := ⟨RX10, "nextByte", "()I"⟩
abbrev cX10_takes : ByteArray := prog_12_method_15_code
def yX10_takes : MethodName := ⟨RX10, "takes", "(I)Z"⟩
abbrev cX10_readNumber : ByteArray := prog_12_method_16_code
def yX10_readNumber : MethodName := ⟨RX10, "readNumber", "(II)I"⟩
abbrev cX10_readLodgers : ByteArray := prog_12_method_17_code
def yX10_readLodgers : MethodName := ⟨RX10, "readLodgers", "()I"⟩
abbrev cX10_readSock : ByteArray := prog_12_method_18_code
def yX10_readSock : MethodName := ⟨RX10, "readSock", "(I)Z"⟩
abbrev cX10_readSocks : ByteArray := prog_12_method_19_code
def yX10_readSocks : MethodName := ⟨RX10, "readSocks", "()Z"⟩
abbrev cX10_socks : ByteArray := prog_12_method_20_code
def yX10_socks : MethodName := ⟨RX10, "socks", "()I"⟩
abbrev cX10_told : ByteArray := prog_12_method_21_code
def yX10_told : MethodName := ⟨RX10, "told", "(II)I"⟩
abbrev cX10_fade : ByteArray := prog_12_method_22_code
def yX10_fade : MethodName := ⟨RX10, "fade", "(II)I"⟩
abbrev cX10_set : ByteArray := prog_12_method_23_code
def yX10_set : MethodName := ⟨RX10, "set", "(II)I"⟩
abbrev cX10_faded : ByteArray := prog_12_method_24_code
def yX10_faded : MethodName := ⟨RX10, "faded", "(II)I"⟩
abbrev cX10_part2 : ByteArray := prog_12_method_25_code
def yX10_part2 : MethodName := ⟨RX10, "part2", "(I)V"⟩
abbrev cX10_monday : ByteArray := prog_12_method_26_code
def yX10_monday : MethodName := ⟨RX10, "monday", "(II)I"⟩
abbrev cX10_found : ByteArray := prog_12_method_27_code
def yX10_found : MethodName := ⟨RX10, "found", "(I)I"⟩
abbrev cX10_more : ByteArray := prog_12_method_28_code
def yX10_more : MethodName := ⟨RX10, "more", "(II)I"⟩
abbrev cX10_alikeOf : ByteArray := prog_12_method_29_code
def yX10_alikeOf : MethodName := ⟨RX10, "alikeOf", "(II)I"⟩
abbrev cX10_alike : ByteArray := prog_12_method_30_code
def yX10_alike : MethodName := ⟨RX10, "alike", "(II)I"⟩
abbrev cX10_bars : ByteArray := prog_12_method_31_code
def yX10_bars : MethodName := ⟨RX10, "bars", "(II)I"⟩
abbrev cX10_fellows : ByteArray := prog_12_method_32_code
def yX10_fellows : MethodName := ⟨RX10, "fellows", "(II)I"⟩
abbrev cX10_count : ByteArray := prog_12_method_33_code
def yX10_count : MethodName := ⟨RX10, "count", "(I)I"⟩
abbrev cX10_lostOf : ByteArray := prog_12_method_34_code
def yX10_lostOf : MethodName := ⟨RX10, "lostOf", "(II)I"⟩
abbrev cX10_distance : ByteArray := prog_12_method_35_code
def yX10_distance : MethodName := ⟨RX10, "distance", "(II)I"⟩
abbrev cX10_lowest : ByteArray := prog_12_method_36_code
def yX10_lowest : MethodName := ⟨RX10, "lowest", "(I)I"⟩
abbrev cX10_worthBy : ByteArray := prog_12_method_37_code
def yX10_worthBy : MethodName := ⟨RX10, "worthBy", "(III)I"⟩
abbrev cX10_findPairs : ByteArray := prog_12_method_38_code
def yX10_findPairs : MethodName := ⟨RX10, "findPairs", "()V"⟩
abbrev cX10_pairs : ByteArray := prog_12_method_39_code
def yX10_pairs : MethodName := ⟨RX10, "pairs", "(I)I"⟩
abbrev cX10_fellow : ByteArray := prog_12_method_40_code
def yX10_fellow : MethodName := ⟨RX10, "fellow", "(I)I"⟩
abbrev cX10_pairUp : ByteArray := prog_12_method_41_code
def yX10_pairUp : MethodName := ⟨RX10, "pairUp", "()I"⟩
abbrev cX10_part : ByteArray := prog_12_method_42_code
def yX10_part : MethodName := ⟨RX10, "part", "(I)I"⟩
abbrev cX10_judge : ByteArray := prog_12_method_43_code
def yX10_judge : MethodName := ⟨RX10, "judge", "(III)I"⟩
abbrev cX10_findWorths : ByteArray := prog_12_method_44_code
def yX10_findWorths : MethodName := ⟨RX10, "findWorths", "(IIIIII)I"⟩
abbrev cX10_thrown : ByteArray := prog_12_method_45_code
def yX10_thrown : MethodName := ⟨RX10, "thrown", "(IIIIII)I"⟩
abbrev cX10_common : ByteArray := prog_12_method_46_code
def yX10_common : MethodName := ⟨RX10, "common", "(JJ)J"⟩
abbrev cX10_worth : ByteArray := prog_12_method_47_code
def yX10_worth : MethodName := ⟨RX10, "worth", "(IIIIIII)J"⟩
abbrev cX10_boxOf : ByteArray := prog_12_method_48_code
def yX10_boxOf : MethodName := ⟨RX10, "boxOf", "(II)I"⟩
abbrev cX10_worst : ByteArray := prog_12_method_49_code
def yX10_worst : MethodName := ⟨RX10, "worst", "()I"⟩
abbrev cX10_choose : ByteArray := prog_12_method_50_code
def yX10_choose : MethodName := ⟨RX10, "choose", "(II)I"⟩
abbrev cX10_unpaired : ByteArray := prog_12_method_51_code
def yX10_unpaired : MethodName := ⟨RX10, "unpaired", "(II)I"⟩
abbrev cX10_odds : ByteArray := prog_12_method_52_code
def yX10_odds : MethodName := ⟨RX10, "odds", "(II)I"⟩
abbrev cX10_owns : ByteArray := prog_12_method_53_code
def yX10_owns : MethodName := ⟨RX10, "owns", "(IIII)I"⟩
abbrev cX10_may : ByteArray := prog_12_method_54_code
def yX10_may : MethodName := ⟨RX10, "may", "(II)I"⟩
abbrev cX10_bind : ByteArray := prog_12_method_55_code
def yX10_bind : MethodName := ⟨RX10, "bind", "(II)I"⟩
abbrev cX10_mayOf : ByteArray := prog_12_method_56_code
def yX10_mayOf : MethodName := ⟨RX10, "mayOf", "(III)I"⟩
abbrev cX10_sizeOf : ByteArray := prog_12_method_57_code
def yX10_sizeOf : MethodName := ⟨RX10, "sizeOf", "(I)I"⟩
abbrev cX10_isOwned : ByteArray := prog_12_method_58_code
def yX10_isOwned : MethodName := ⟨RX10, "isOwned", "(III)Z"⟩
abbrev cX10_waysOf : ByteArray := prog_12_method_59_code
def yX10_waysOf : MethodName := ⟨RX10, "waysOf", "(III)J"⟩
abbrev cX10_allWays : ByteArray := prog_12_method_60_code
def yX10_allWays : MethodName := ⟨RX10, "allWays", "(II)J"⟩
abbrev cX10_ways : ByteArray := prog_12_method_61_code
def yX10_ways : MethodName := ⟨RX10, "ways", "()J"⟩
abbrev cX10_whose : ByteArray := prog_12_method_62_code
def yX10_whose : MethodName := ⟨RX10, "whose", "(I)I"⟩
abbrev cX10_seldom : ByteArray := prog_12_method_63_code
def yX10_seldom : MethodName := ⟨RX10, "seldom", "(I)I"⟩
abbrev cX10_lacks : ByteArray := prog_12_method_64_code
def yX10_lacks : MethodName := ⟨RX10, "lacks", "(II)I"⟩
abbrev cX10_wish : ByteArray := prog_12_method_65_code
def yX10_wish : MethodName := ⟨RX10, "wish", "(II)I"⟩
abbrev cX10_buy : ByteArray := prog_12_method_66_code
def yX10_buy : MethodName := ⟨RX10, "buy", "()I"⟩
abbrev cX10_areApart : ByteArray := prog_12_method_67_code
def yX10_areApart : MethodName := ⟨RX10, "areApart", "(III)Z"⟩
abbrev cX10_findMarks : ByteArray := prog_12_method_68_code
def yX10_findMarks : MethodName := ⟨RX10, "findMarks", "(III)Z"⟩
abbrev cX10_marks : ByteArray := prog_12_method_69_code
def yX10_marks : MethodName := ⟨RX10, "marks", "(III)I"⟩
abbrev cX10_image : ByteArray := prog_12_method_70_code
def yX10_image : MethodName := ⟨RX10, "image", "()I"⟩
abbrev cX10_restore : ByteArray := prog_12_method_71_code
def yX10_restore : MethodName := ⟨RX10, "restore", "()I"⟩
abbrev cX10_isSheet : ByteArray := prog_12_method_72_code
def yX10_isSheet : MethodName := ⟨RX10, "isSheet", "(II)Z"⟩
abbrev cX10_sheet : ByteArray := prog_12_method_73_code
def yX10_sheet : MethodName := ⟨RX10, "sheet", "(III)I"⟩
abbrev cX10_drop : ByteArray := prog_12_method_74_code
def yX10_drop : MethodName := ⟨RX10, "drop", "(I)I"⟩
abbrev cX10_lacksRow : ByteArray := prog_12_method_75_code
def yX10_lacksRow : MethodName := ⟨RX10, "lacksRow", "(IIII)I"⟩
abbrev cX10_item : ByteArray := prog_12_method_76_code
def yX10_item : MethodName := ⟨RX10, "item", "(IIII)I"⟩
def RJ6 : String := "java/lang/Integer"
def TJ6 : u_T := fun k => match k with
  | _ => ("", "", "", false)
def tyJ6 : Nat → FieldType := fun k => match k with
  | _ => .int
abbrev wsJ60 : List Cond := u_ws RJ6 TJ6 0
theorem nmJ6 : ∀ a, a < 0 → ∀ b, b < 0 → a ≠ b → (TJ6 a).2.1 ≠ (TJ6 b).2.1 := by decide +kernel
theorem tyJ6_ok : ∀ k, k < 0 → parseFieldDescriptor (TJ6 k).2.2.1 = some (tyJ6 k) := by decide +kernel
abbrev cJ6_bitCount_0f7a4 : ByteArray := prog_13_method_49_code
def yJ6_bitCount_0f7a4 : MethodName := ⟨RJ6, "bitCount", "(I)I"⟩
def RJ13 : String := "java/lang/Long"
def TJ13 : u_T := fun k => match k with
  | _ => ("", "", "", false)
def tyJ13 : Nat → FieldType := fun k => match k with
  | _ => .int
abbrev wsJ130 : List Cond := u_ws RJ13 TJ13 0
theorem nmJ13 : ∀ a, a < 0 → ∀ b, b < 0 → a ≠ b → (TJ13 a).2.1 ≠ (TJ13 b).2.1 := by decide +kernel
theorem tyJ13_ok : ∀ k, k < 0 → parseFieldDescriptor (TJ13 k).2.2.1 = some (tyJ13 k) := by decide +kernel
abbrev cJ13_bitCount_95d88 : ByteArray := prog_14_method_50_code
def yJ13_bitCount_95d88 : MethodName := ⟨RJ13, "bitCount", "(J)I"⟩
def RJ9 : String := "java/lang/Math"
def TJ9 : u_T := fun k => match k with
  | _ => ("", "", "", false)
def tyJ9 : Nat → FieldType := fun k => match k with
  | _ => .int
abbrev wsJ90 : List Cond := u_ws RJ9 TJ9 0
theorem nmJ9 : ∀ a, a < 0 → ∀ b, b < 0 → a ≠ b → (TJ9 a).2.1 ≠ (TJ9 b).2.1 := by decide +kernel
theorem tyJ9_ok : ∀ k, k < 0 → parseFieldDescriptor (TJ9 k).2.2.1 = some (tyJ9 k) := by decide +kernel
abbrev cJ9_abs_0f7a4 : ByteArray := prog_15_method_59_code
def yJ9_abs_0f7a4 : MethodName := ⟨RJ9, "abs", "(I)I"⟩
abbrev cJ9_max_7cf53 : ByteArray := prog_15_method_65_code
def yJ9_max_7cf53 : MethodName := ⟨RJ9, "max", "(II)I"⟩
abbrev cJ9_max_f86c9 : ByteArray := prog_15_method_66_code
def yJ9_max_f86c9 : MethodName := ⟨RJ9, "max", "(JJ)J"⟩
abbrev cJ9_min_7cf53 : ByteArray := prog_15_method_69_code
def yJ9_min_7cf53 : MethodName := ⟨RJ9, "min", "(II)I"⟩
def RJ10 : String := "java/lang/System"
def TJ10 : u_T := fun k => match k with
  | _ => ("", "", "", false)
def tyJ10 : Nat → FieldType := fun k => match k with
  | _ => .int
abbrev wsJ100 : List Cond := u_ws RJ10 TJ10 0
theorem nmJ10 : ∀ a, a < 0 → ∀ b, b < 0 → a ≠ b → (TJ10 a).2.1 ≠ (TJ10 b).2.1 := by decide +kernel
theorem tyJ10_ok : ∀ k, k < 0 → parseFieldDescriptor (TJ10 k).2.2.1 = some (tyJ10 k) := by decide +kernel
def RL : String := "OneOfEachLaw"
abbrev cL_law : ByteArray := code
def yL_law : MethodName := ⟨RL, "law", "([I)Z"⟩
abbrev vwCl : List vw_C := [(RX0, TX0, 2), (RX1, TX1, 11), (RX2, TX2, 1), (RX3, TX3, 5), (RX4, TX4, 3), (RX5, TX5, 9), (RX6, TX6, 4), (RX7, TX7, 4), (RX8, TX8, 4), (RX9, TX9, 11), (RX10, TX10, 20)]
end
section
/-! memory: every int and every long of the system by cell and place; the cells' shapes are fixed -/
abbrev SI : Type := Nat → Nat → Int32
abbrev SL : Type := Nat → Nat → Int64
abbrev Mem : Type := SI × SL × SI × SL
def up2 {α : Type} (S : Nat → Nat → α) (a k : Nat) (v : α) : Nat → Nat → α := va_up S a (va_up (S a) k v)
def ix (j : Int32) : Nat := j.toNatClampNeg
def inB (j : Int32) (n : Nat) : Bool := decide (0 ≤ j.toInt ∧ j.toInt < (n : Int))
def gd {α : Type} (b : Bool) (o : Option α) : Option α := if b = true then o else none
def cpB (sp dp n : Int32) (n0 n1 : Nat) : Bool := decide (0 ≤ sp.toInt ∧ 0 ≤ dp.toInt ∧ 0 ≤ n.toInt ∧ sp.toInt + n.toInt ≤ (n0 : Int) ∧ dp.toInt + n.toInt ≤ (n1 : Int))
abbrev FK : Type := Nat ⊕ Bool
abbrev SH : Type := (Nat × List FK) ⊕ (Nat × Nat)
def sSock : SH := .inl (5, [.inr false, .inr false, .inr false, .inr false, .inr false, .inr false, .inr false, .inr false, .inr false])
def sSheet (r : Nat) : SH := .inl (4, [.inl r, .inr false, .inr false])
def shs : List SH := [.inl (9, [.inl 1, .inl 21, .inr false, .inl 41, .inl 52, .inl 53, .inl 57, .inl 60, .inl 62, .inl 64, .inl 69]), .inl (1, [.inl 2, .inr false, .inl 3, .inl 4, .inr false, .inl 5, .inr false, .inr false, .inl 6, .inl 7, .inl 8]), .inr (12, 2), .inr (12, 0), .inr (12, 0), .inr (6, 0), .inr (18, 0), .inr (18, 0), .inr (3, 0), sSock, sSock, sSock, sSock, sSock, sSock, sSock, sSock, sSock, sSock, sSock, sSock, .inl (1, [.inl 22, .inr false, .inl 23, .inl 24, .inr false, .inl 25, .inr false, .inr false, .inl 26, .inl 27, .inl 28]), .inr (12, 2), .inr (12, 0), .inr (12, 0), .inr (6, 0), .inr (18, 0), .inr (18, 0), .inr (3, 0), sSock, sSock, sSock, sSock, sSock, sSock, sSock, sSock, sSock, sSock, sSock, sSock, .inl (6, [.inl 42, .inr false, .inr false, .inl 43]), .inr (80, 0), .inr (8, 2), sSock, sSock, sSock, sSock, sSock, sSock, sSock, sSock, sSock, .inl (3, [.inl 54, .inl 55, .inl 56, .inr false, .inr false]), .inr (144, 0), .inr (4096, 0), .inr (12, 0), .inl (8, [.inl 58, .inl 59, .inr true, .inr false]), .inr (8, 0), .inr (9, 1), .inl (0, [.inl 61, .inr false]), .inr (13, 1), .inl (2, [.inl 63]), .inr (169, 1), .inl (7, [.inl 65, .inl 66, .inl 67, .inl 68]), .inr (20, 0), .inr (100, 0), .inr (5, 0), .inr (64, 1), .inr (4, 3), sSheet 71, .inr (16, 0), sSheet 73, .inr (16, 0), sSheet 75, .inr (16, 0), sSheet 77, .inr (16, 0), .inl (10, [.inl 79, .inl 80, .inr false, .inr false, .inr false, .inl 81, .inl 82, .inl 83, .inl 84, .inl 85, .inl 86, .inl 87, .inl 88, .inl 89, .inl 90, .inr false, .inl 91, .inl 92, .inl 93, .inl 94]), .inr (205, 0), .inr (80, 0), .inr (40, 0), .inr (4096, 0), .inr (12, 0), .inr (9, 1), .inr (9, 1), .inr (13, 0), .inr (13, 0), .inr (169, 1), .inr (169, 1), .inr (5, 0), .inr (205, 0), .inr (4, 0), .inr (4, 0), .inr (64, 0)]
def sh (i : Nat) : SH := shs.getD i (.inr (0, 0))
/-- the cell that an array of references holds at a place -/
def el (a j : Nat) : Nat := if a = 69 then 70 + 2 * j else if a = 43 then 44 + j else a + 7 + j
def fv (base : Nat) (f : Nat → Int32) (g : Nat → Int64) (k : Nat) (x : FK) : Value := match x with
  | .inl r => .ref (base + r)
  | .inr false => .int (f k)
  | .inr true => .long (g k)
def cellE (base : Nat) (cy : Nat → ClassId) (i : Nat) (x : SH) (f : Nat → Int32) (g : Nat → Int64) : va_E := match x with
  | .inl o => .inr (o.1, o.2.mapIdx (fv base f g))
  | .inr (n, 0) => .inl (cy 0, n, .inl f)
  | .inr (n, 1) => .inl (cy 1, n, .inr (.inl g))
  | .inr (n, k + 2) => .inl (cy (k + 2), n, .inr (.inr (.inr (.inr (fun j => some (base + el i j))))))
def jn {α : Type} (S S' : Nat → α) : Nat → α := fun a => if a < 78 then S a else S' a
theorem jn_c {α : Type} {S S' : Nat → α} {a : Nat} (h : a < 78) : jn S S' a = S a := if_pos h
theorem jn_m {α : Type} {S S' : Nat → α} {a : Nat} (h : ¬ a < 78) : jn S S' a = S' a := if_neg h
def wsOf (base : Nat) (cy : Nat → ClassId) (σ : Mem) : va_W := (List.range 95).map (fun i => (base + i, cellE base cy i (sh i) (jn σ.1 σ.2.2.1 i) (jn σ.2.1 σ.2.2.2 i)))
theorem ws_at {base : Nat} {cy : Nat → ClassId} {σ : Mem} {i : Nat} (h : i < 95) : (wsOf base cy σ)[i]? = some (base + i, cellE base cy i (sh i) (jn σ.1 σ.2.2.1 i) (jn σ.2.1 σ.2.2.2 i)) := by
  simp [wsOf, h]
theorem ws_D {base : Nat} {cy : Nat → ClassId} {σ : Mem} : va_D (fun q => base ≤ q) (wsOf base cy σ) := by
  have key : ∀ (i : Nat) (p : Nat × va_E), (wsOf base cy σ)[i]? = some p → p.1 = base + i := by
    intro i p h
    have hl : i < 95 := by
      have := (List.getElem?_eq_some_iff.mp h).1
      simpa [wsOf] using this
    rw [ws_at hl] at h
    cases h
    rfl
  refine ⟨fun i j p q hi hj h => ?_, fun k q hk => ?_⟩
  · have := key i p hi
    have := key j q hj
    omega
  · show base ≤ q.1
    rw [key k q hk]
    omega
theorem ws_set {base : Nat} {cy : Nat → ClassId} {σ τ : Mem} {a : Nat} (ho : ∀ i, i < 95 → i ≠ a → jn τ.1 τ.2.2.1 i = jn σ.1 σ.2.2.1 i ∧ jn τ.2.1 τ.2.2.2 i = jn σ.2.1 σ.2.2.2 i) : (wsOf base cy σ).set a (base + a, cellE base cy a (sh a) (jn τ.1 τ.2.2.1 a) (jn τ.2.1 τ.2.2.2 a)) = wsOf base cy τ := by
  apply List.ext_getElem?
  intro i
  by_cases hl : i < 95
  · rw [ws_at hl]
    by_cases h : i = a
    · subst h
      rw [List.getElem?_set_self (by simpa [wsOf] using hl)]
    · rw [List.getElem?_set_ne (Ne.symm h), ws_at hl, (ho i hl h).1, (ho i hl h).2]
  · rw [List.getElem?_eq_none (by simpa [wsOf] using hl), List.getElem?_eq_none (by simpa [wsOf] using hl)]
theorem up_ne {α : Type} {f : Nat → α} {k j : Nat} {v : α} (h : j ≠ k) : va_up f k v j = f j := if_neg h
theorem up_eq {α : Type} {f : Nat → α} {k : Nat} {v : α} : va_up f k v k = v := if_pos rfl
theorem ws_cI {base : Nat} {cy : Nat → ClassId} {S S' : SI} {T T' : SL} {a : Nat} (ha : a < 78) (f : Nat → Int32) : (wsOf base cy (S, T, S', T')).set a (base + a, cellE base cy a (sh a) f (T a)) = wsOf base cy (va_up S a f, T, S', T') := by
  have h := ws_set (base := base) (cy := cy) (σ := (S, T, S', T')) (τ := (va_up S a f, T, S', T')) (a := a) (fun i _ hi => by
    refine ⟨?_, rfl⟩
    show jn (va_up S a f) S' i = jn S S' i
    unfold jn
    rw [up_ne hi])
  rw [← h]
  show _ = List.set _ _ (_, cellE _ _ _ _ (jn (va_up S a f) S' a) (jn T T' a))
  rw [jn_c ha, jn_c ha, up_eq]
theorem ws_cL {base : Nat} {cy : Nat → ClassId} {S S' : SI} {T T' : SL} {a : Nat} (ha : a < 78) (g : Nat → Int64) : (wsOf base cy (S, T, S', T')).set a (base + a, cellE base cy a (sh a) (S a) g) = wsOf base cy (S, va_up T a g, S', T') := by
  have h := ws_set (base := base) (cy := cy) (σ := (S, T, S', T')) (τ := (S, va_up T a g, S', T')) (a := a) (fun i _ hi => by
    refine ⟨rfl, ?_⟩
    show jn (va_up T a g) T' i = jn T T' i
    unfold jn
    rw [up_ne hi])
  rw [← h]
  show _ = List.set _ _ (_, cellE _ _ _ _ (jn S S' a) (jn (va_up T a g) T' a))
  rw [jn_c ha, jn_c ha, up_eq]
theorem ws_mI {base : Nat} {cy : Nat → ClassId} {S S' : SI} {T T' : SL} {a : Nat} (ha : ¬ a < 78) (f : Nat → Int32) : (wsOf base cy (S, T, S', T')).set a (base + a, cellE base cy a (sh a) f (T' a)) = wsOf base cy (S, T, va_up S' a f, T') := by
  have h := ws_set (base := base) (cy := cy) (σ := (S, T, S', T')) (τ := (S, T, va_up S' a f, T')) (a := a) (fun i _ hi => by
    refine ⟨?_, rfl⟩
    show jn S (va_up S' a f) i = jn S S' i
    unfold jn
    rw [up_ne hi])
  rw [← h]
  show _ = List.set _ _ (_, cellE _ _ _ _ (jn S (va_up S' a f) a) (jn T T' a))
  rw [jn_m ha, jn_m ha, up_eq]
theorem ws_mL {base : Nat} {cy : Nat → ClassId} {S S' : SI} {T T' : SL} {a : Nat} (ha : ¬ a < 78) (g : Nat → Int64) : (wsOf base cy (S, T, S', T')).set a (base + a, cellE base cy a (sh a) (S' a) g) = wsOf base cy (S, T, S', va_up T' a g) := by
  have h := ws_set (base := base) (cy := cy) (σ := (S, T, S', T')) (τ := (S, T, S', va_up T' a g)) (a := a) (fun i _ hi => by
    refine ⟨rfl, ?_⟩
    show jn T (va_up T' a g) i = jn T T' i
    unfold jn
    rw [up_ne hi])
  rw [← h]
  show _ = List.set _ _ (_, cellE _ _ _ _ (jn S S' a) (jn T (va_up T' a g) a))
  rw [jn_m ha, jn_m ha, up_eq]
theorem mi_set {base : Nat} {f : Nat → Int32} {g : Nat → Int64} {ks : List FK} {k : Nat} (hk : ks[k]? = some (.inr false)) (v : Int32) : (ks.mapIdx (fv base f g)).set k (.int v) = ks.mapIdx (fv base (va_up f k v) g) := by
  apply List.ext_getElem?
  intro i
  by_cases h : i = k
  · subst h
    have hl : i < (ks.mapIdx (fv base f g)).length := by
      have := (List.getElem?_eq_some_iff.mp hk).1
      simpa using this
    rw [List.getElem?_set_self hl, List.getElem?_mapIdx, hk]
    show some (Value.int v) = some (Value.int (va_up f i v i))
    rw [up_eq]
  · rw [List.getElem?_set_ne (Ne.symm h), List.getElem?_mapIdx, List.getElem?_mapIdx]
    cases ks[i]? with
    | none => rfl
    | some x =>
      rcases x with r | b
      · rfl
      · cases b
        · show some (Value.int (f i)) = some (Value.int (va_up f k v i))
          rw [up_ne h]
        · rfl
theorem mi_setL {base : Nat} {f : Nat → Int32} {g : Nat → Int64} {ks : List FK} {k : Nat} (hk : ks[k]? = some (.inr true)) (v : Int64) : (ks.mapIdx (fv base f g)).set k (.long v) = ks.mapIdx (fv base f (va_up g k v)) := by
  apply List.ext_getElem?
  intro i
  by_cases h : i = k
  · subst h
    have hl : i < (ks.mapIdx (fv base f g)).length := by
      have := (List.getElem?_eq_some_iff.mp hk).1
      simpa using this
    rw [List.getElem?_set_self hl, List.getElem?_mapIdx, hk]
    show some (Value.long v) = some (Value.long (va_up g i v i))
    rw [up_eq]
  · rw [List.getElem?_set_ne (Ne.symm h), List.getElem?_mapIdx, List.getElem?_mapIdx]
    cases ks[i]? with
    | none => rfl
    | some x =>
      rcases x with r | b
      · rfl
      · cases b
        · rfl
        · show some (Value.long (g i)) = some (Value.long (va_up g k v i))
          rw [up_ne h]

/-! the words: those that hold at every call, and the links among nest mates -/
def tblG : List Cond := lw_tbl.filter goodWord
def tblN : List Cond := [.methodLinkNest RX1 102 yX9_within "OneOfEach", .methodLinkNest RX8 32 yX9_within "OneOfEach", .methodLinkNest RX0 47 yX9_choose "OneOfEach"]
theorem tG {i : Nat} {w : Cond} (h : lw_tbl[i]? = some w) (hg : goodWord w = true) : w ∈ tblG := List.mem_filter.mpr ⟨List.mem_of_getElem? h, hg⟩
theorem tG_good : ∀ w ∈ tblG, (w.onTables && w.keeps) = true ∨ ∃ ty, w = .arrayClass ty := fun _ h => good_of_word (List.mem_filter.mp h).2
theorem tG_in {w : Cond} (hw : w ∈ tblG) : GoodIn tblG (w :: tblG) := fun x h => by
  rcases List.mem_cons.mp h with rfl | h
  · exact ⟨hw, tG_good _ hw⟩
  · exact ⟨h, tG_good _ h⟩
theorem tN_warm {s U : State} (hW : s.WarmedH U.vm) (h : ∀ w ∈ tblN, va_Nw w s) : ∀ w ∈ tblN, va_Nw w U := by
  intro w hw
  have h1 := h w hw
  simp only [tblN, List.mem_cons, List.mem_nil_iff, or_false] at hw
  rcases hw with rfl | rfl | rfl
  · exact va_Nw.warmM hW h1
  · exact va_Nw.warmM hW h1
  · exact va_Nw.warmM hW h1
theorem tN_same {s U : State} (hW : s.vm = U.vm) (h : ∀ w ∈ tblN, va_Nw w s) : ∀ w ∈ tblN, va_Nw w U := by
  intro w hw
  have h1 := h w hw
  simp only [tblN, List.mem_cons, List.mem_nil_iff, or_false] at hw
  rcases hw with rfl | rfl | rfl
  · exact va_Nw.same rfl hW h1
  · exact va_Nw.same rfl hW h1
  · exact va_Nw.same rfl hW h1
abbrev tysOf (cy : Nat → ClassId) : List (ClassId × FieldType) := [(cy 0, .int), (cy 1, .long), (cy 2, .object RX5), (cy 3, .object RX4)]
def cv (base b : Nat) (v : Value) : Value := match v with
  | .ref a => if a = 1000 then .ref b else .ref (base + a)
  | .int x => .int x
  | .long x => .long x
  | v => v
theorem cv_cat (base b : Nat) (v : Value) : (cv base b v).category = v.category := by
  cases v <;> try rfl
  unfold cv
  dsimp only
  split <;> rfl
theorem cv_r {base b a : Nat} (h : a < 95) : cv base b (.ref a) = .ref (base + a) := by
  unfold cv
  dsimp only
  rw [if_neg (show ¬ a = 1000 by omega)]
def lmap (base b : Nat) (L : List (Nat × Value)) : List (Nat × Value) := L.map (fun q => (q.1, cv base b q.2))
theorem lmap_at {base b : Nat} {L : List (Nat × Value)} {ls : Array Slot} {nL : Nat} (h : lv_has ls nL (lmap base b L)) {k i : Nat} {v : Value} (hk : L[k]? = some (i, v)) : ls[i]? = some (.val (cv base b v)) := by
  refine lv_at h k ?_
  rw [lmap, List.getElem?_map, hk]
  rfl
theorem lmap_pick {base b : Nat} {L L' : List (Nat × Value)} {ls : Array Slot} {nL : Nat} (h : lv_has ls nL (lmap base b L)) (ks : List Nat) (hk : lv_pick L ks = L') : lv_has ls nL (lmap base b L') := by
  refine lv_sub h ks ?_
  subst hk
  induction ks with
  | nil => rfl
  | cons k ks ih =>
    simp only [lv_pick, lmap, List.filterMap_cons, List.getElem?_map] at ih ⊢
    cases hL : L[k]? with
    | none => simpa [hL] using ih
    | some q => simpa [hL] using ih
def st1 (L : List (Nat × Value)) (i : Nat) (v : Value) : List (Nat × Value) := (i, v) :: L.filter (fun q => !(q.1 == i) && !(q.1 + 1 == i && q.2.category == 2))
def st2 (L : List (Nat × Value)) (i : Nat) (v : Value) : List (Nat × Value) := (i, v) :: L.filter (fun q => !(q.1 == i) && (!(q.1 == i + 1) && !(q.1 + 1 == i && q.2.category == 2)))
theorem lmap_st1 {base b : Nat} {L : List (Nat × Value)} {i : Nat} {v : Value} : (i, cv base b v) :: (lmap base b L).filter (fun q => !(q.1 == i) && !(q.1 + 1 == i && q.2.category == 2)) = lmap base b (st1 L i v) := by
  simp only [lmap, st1, List.map_cons, List.filter_map]
  congr 2
  apply List.filter_congr
  intro q _
  simp only [Function.comp, cv_cat]
theorem lmap_st2 {base b : Nat} {L : List (Nat × Value)} {i : Nat} {v : Value} : (i, cv base b v) :: (lmap base b L).filter (fun q => !(q.1 == i) && (!(q.1 == i + 1) && !(q.1 + 1 == i && q.2.category == 2))) = lmap base b (st2 L i v) := by
  simp only [lmap, st2, List.map_cons, List.filter_map]
  congr 2
  apply List.filter_congr
  intro q _
  simp only [Function.comp, cv_cat]
def retI (cc : ByteArray) (rt : Option FieldType) (r : Option Value) (pc : Nat) : Prop := match r with
  | none => rt = none ∧ decode cc pc = .ok (.return_, 1)
  | some (.int v) => (∃ ty, rt = some ty ∧ narrow ty (.int v) = .int v) ∧ decode cc pc = .ok (.ireturn, 1)
  | some (.long _) => rt = some .long ∧ decode cc pc = .ok (.lreturn, 1)
  | some _ => False
/-- what a method's body is walked in: the machine, the words, the memory, the room -/
def Ctx (base b : Nat) (cy : Nat → ClassId) (dC : Nat → ClassId) (dI : Nat → Nat → Nat) (X : Option (Nat × (Nat → Int32))) (D : Nat) (y : MethodName) (cc : ByteArray) (nL : Nat) (p : Program) (R : Room) (s : State) (m : MethodId) (args : Array Value) (c : Code) (H : Heap) (locs : List Loc) (cells slots : Nat) (σ : Mem) : Prop :=
  (p.tables.exec = Jvm.exec ∧ c.code = cc ∧ c.maxLocals = nL ∧ s.vm.findClass y.cls = some m.cls ∧ (∀ w ∈ tblG, w.before args s = true) ∧ (∀ w ∈ tblN, va_Nw w s) ∧ va_K (dC, dI) vwCl (tysOf cy) s) ∧
  (va_P (dC, dI) vwCl (wsOf base cy σ) H ∧ va_S (fun q => base ≤ q) s.heap H locs ∧ ∀ (n : Nat) (xs : Nat → Int32), X = some (n, xs) → va_X b n xs s s.heap ∧ b < s.heap.size ∧ b < base) ∧
  (D ≤ R.frames ∧ 64 * D ≤ R.locals ∧ cells ≤ R.cells ∧ slots ≤ R.slots)
/-- the body at pc, with these locals and this stack over this memory, comes to its return with what o says -/
def Run {α : Type} (D : Nat) (y : MethodName) (cc : ByteArray) (nL : Nat) (rt : Option FieldType) (X : Option (Nat × (Nat → Int32))) (ρ : α → Option Value × Mem) (pc : Nat) (L : List (Nat × Value)) (st : List Value) (σ : Mem) (o : Option α) : Prop :=
  ∀ (z : α), o = some z → ∀ (base b : Nat) (cy : Nat → ClassId) (dC : Nat → ClassId) (dI : Nat → Nat → Nat) (p : Program) (l : Launch) (e : Env) (R : Room) (s : State) (m : MethodId) (args : Array Value) (below : List Frame) (meth : Method) (c : Code) (H : Heap) (locs : List Loc) (cells slots : Nat) (Q : State → Prop) (ls : Array Slot),
    Ctx base b cy dC dI X D y cc nL p R s m args c H locs cells slots σ → lv_has ls nL (lmap base b L) →
    (∀ (pc' : Nat) (ls' : Array Slot) (H1 : Heap) (locs1 : List Loc), retI cc rt (ρ z).1 pc' → va_P (dC, dI) vwCl (wsOf base cy (ρ z).2) H1 → va_S (fun q => base ≤ q) s.heap H1 locs1 → W p l e R s m args below meth c H1 locs1 cells slots Q (F0 m pc' ls' ((ρ z).1.toList.map (cv base b)))) →
    W p l e R s m args below meth c H locs cells slots Q (F0 m pc ls (st.map (cv base b)))
section Rows
variable {α : Type} {D : Nat} {y : MethodName} {cc : ByteArray} {nL : Nat} {rt : Option FieldType} {X : Option (Nat × (Nat → Int32))} {ρ : α → Option Value × Mem} {pc : Nat} {L L' : List (Nat × Value)} {st : List Value} {σ : Mem} {S S' : SI} {T T' : SL} {o A B : Option α}
theorem r_none : Run D y cc nL rt X ρ pc L st σ none := fun _ h => nomatch h
theorem r_pick (ks : List Nat) (hk : lv_pick L ks = L') (k : Run D y cc nL rt X ρ pc L' st σ o) : Run D y cc nL rt X ρ pc L st σ o := by
  intro z hz base b cy dC dI p l e R s m args below meth c H locs cells slots Q ls C hl hF
  exact k z hz base b cy dC dI p l e R s m args below meth c H locs cells slots Q ls C (lmap_pick hl ks hk) hF
theorem r_if {P : Prop} [Decidable P] (kt : P → Run D y cc nL rt X ρ pc L st σ A) (kf : ¬ P → Run D y cc nL rt X ρ pc L st σ B) : Run D y cc nL rt X ρ pc L st σ (if P then A else B) := by
  by_cases h : P
  · rw [if_pos h]; exact kt h
  · rw [if_neg h]; exact kf h
theorem r_gd {g : Bool} (k : g = true → Run D y cc nL rt X ρ pc L st σ o) : Run D y cc nL rt X ρ pc L st σ (gd g o) := by
  cases g
  · exact r_none
  · exact k rfl

theorem r_iconst {n : Int} {v : Int32} (hd : decode cc pc = .ok (.iconst n, 1)) (hv : Int32.ofInt n = v) (k : Run D y cc nL rt X ρ (pc + 1) L (.int v :: st) σ o) : Run D y cc nL rt X ρ pc L st σ o := by
  intro z hz base b cy dC dI p l e R s m args below meth c H locs cells slots Q ls C hl hF
  exact lv_iconst C.1.1 C.1.2.1 hd hv (k z hz base b cy dC dI p l e R s m args below meth c H locs cells slots Q ls C hl hF)
theorem r_bipush {n : Int} {v : Int32} (hd : decode cc pc = .ok (.bipush n, 2)) (hv : (Int8.ofInt n).toInt32 = v) (k : Run D y cc nL rt X ρ (pc + 2) L (.int v :: st) σ o) : Run D y cc nL rt X ρ pc L st σ o := by
  intro z hz base b cy dC dI p l e R s m args below meth c H locs cells slots Q ls C hl hF
  exact lv_bipush C.1.1 C.1.2.1 hd hv (k z hz base b cy dC dI p l e R s m args below meth c H locs cells slots Q ls C hl hF)
theorem r_sipush {n : Int} {v : Int32} (hd : decode cc pc = .ok (.sipush n, 3)) (hv : (Int16.ofInt n).toInt32 = v) (k : Run D y cc nL rt X ρ (pc + 3) L (.int v :: st) σ o) : Run D y cc nL rt X ρ pc L st σ o := by
  intro z hz base b cy dC dI p l e R s m args below meth c H locs cells slots Q ls C hl hF
  exact lv_sipush C.1.1 C.1.2.1 hd hv (k z hz base b cy dC dI p l e R s m args below meth c H locs cells slots Q ls C hl hF)
theorem r_lconst {n : Fin 2} {v : Int64} (hd : decode cc pc = .ok (.lconst n, 1)) (hv : Int64.ofNat (n : Nat) = v) (k : Run D y cc nL rt X ρ (pc + 1) L (.long v :: st) σ o) : Run D y cc nL rt X ρ pc L st σ o := by
  intro z hz base b cy dC dI p l e R s m args below meth c H locs cells slots Q ls C hl hF
  exact lv_lconst C.1.1 C.1.2.1 hd hv (k z hz base b cy dC dI p l e R s m args below meth c H locs cells slots Q ls C hl hF)
theorem r_ldc {idx : Nat} {v : Int32} (hd : decode cc pc = .ok (.ldc idx, 2)) (hw : Cond.constant y.cls idx v ∈ tblG) (k : Run D y cc nL rt X ρ (pc + 2) L (.int v :: st) σ o) : Run D y cc nL rt X ρ pc L st σ o := by
  intro z hz base b cy dC dI p l e R s m args below meth c H locs cells slots Q ls C hl hF
  exact lv_ldc C.1.1 C.1.2.1 C.1.2.2.2.1 (C.1.2.2.2.2.1 _ hw) hd (k z hz base b cy dC dI p l e R s m args below meth c H locs cells slots Q ls C hl hF)
theorem r_ldc_w {idx : Nat} {v : Int32} (hd : decode cc pc = .ok (.ldc_w idx, 3)) (hw : Cond.constant y.cls idx v ∈ tblG) (k : Run D y cc nL rt X ρ (pc + 3) L (.int v :: st) σ o) : Run D y cc nL rt X ρ pc L st σ o := by
  intro z hz base b cy dC dI p l e R s m args below meth c H locs cells slots Q ls C hl hF
  exact lv_ldcw C.1.1 C.1.2.1 C.1.2.2.2.1 (C.1.2.2.2.2.1 _ hw) hd (k z hz base b cy dC dI p l e R s m args below meth c H locs cells slots Q ls C hl hF)
theorem r_ldc2_w {idx : Nat} {v : Int64} (hd : decode cc pc = .ok (.ldc2_w idx, 3)) (hw : Cond.constantLong y.cls idx v ∈ tblG) (k : Run D y cc nL rt X ρ (pc + 3) L (.long v :: st) σ o) : Run D y cc nL rt X ρ pc L st σ o := by
  intro z hz base b cy dC dI p l e R s m args below meth c H locs cells slots Q ls C hl hF
  exact lv_ldc2 C.1.1 C.1.2.1 C.1.2.2.2.1 (C.1.2.2.2.2.1 _ hw) hd (k z hz base b cy dC dI p l e R s m args below meth c H locs cells slots Q ls C hl hF)
theorem r_iload_n {n : Fin 4} {i : Nat} {x : Int32} (hd : decode cc pc = .ok (.iload_n n, 1)) (q : Nat) (hi : (n : Nat) = i) (hq : L[q]? = some (i, .int x)) (k : Run D y cc nL rt X ρ (pc + 1) L (.int x :: st) σ o) : Run D y cc nL rt X ρ pc L st σ o := by
  intro z hz base b cy dC dI p l e R s m args below meth c H locs cells slots Q ls C hl hF
  exact lv_iload_n C.1.1 C.1.2.1 hd hi (lmap_at hl hq) (k z hz base b cy dC dI p l e R s m args below meth c H locs cells slots Q ls C hl hF)
theorem r_iload {i : Nat} {x : Int32} (hd : decode cc pc = .ok (.iload i, 2)) (q : Nat) (hq : L[q]? = some (i, .int x)) (k : Run D y cc nL rt X ρ (pc + 2) L (.int x :: st) σ o) : Run D y cc nL rt X ρ pc L st σ o := by
  intro z hz base b cy dC dI p l e R s m args below meth c H locs cells slots Q ls C hl hF
  exact lv_iload C.1.1 C.1.2.1 hd (lmap_at hl hq) (k z hz base b cy dC dI p l e R s m args below meth c H locs cells slots Q ls C hl hF)
theorem r_lload_n {n : Fin 4} {i : Nat} {x : Int64} (hd : decode cc pc = .ok (.lload_n n, 1)) (q : Nat) (hi : (n : Nat) = i) (hq : L[q]? = some (i, .long x)) (k : Run D y cc nL rt X ρ (pc + 1) L (.long x :: st) σ o) : Run D y cc nL rt X ρ pc L st σ o := by
  intro z hz base b cy dC dI p l e R s m args below meth c H locs cells slots Q ls C hl hF
  exact lv_lload_n C.1.1 C.1.2.1 hd hi (lmap_at hl hq) (k z hz base b cy dC dI p l e R s m args below meth c H locs cells slots Q ls C hl hF)
theorem r_lload {i : Nat} {x : Int64} (hd : decode cc pc = .ok (.lload i, 2)) (q : Nat) (hq : L[q]? = some (i, .long x)) (k : Run D y cc nL rt X ρ (pc + 2) L (.long x :: st) σ o) : Run D y cc nL rt X ρ pc L st σ o := by
  intro z hz base b cy dC dI p l e R s m args below meth c H locs cells slots Q ls C hl hF
  exact lv_lload C.1.1 C.1.2.1 hd (lmap_at hl hq) (k z hz base b cy dC dI p l e R s m args below meth c H locs cells slots Q ls C hl hF)
theorem cv_ref {base b a : Nat} : ∃ a', cv base b (.ref a) = .ref a' := by
  by_cases h : a = 1000
  · exact ⟨b, by simp [cv, h]⟩
  · exact ⟨base + a, by simp [cv, h]⟩
theorem r_aload_n {n : Fin 4} {i : Nat} {x : Nat} (hd : decode cc pc = .ok (.aload_n n, 1)) (q : Nat) (hi : (n : Nat) = i) (hq : L[q]? = some (i, .ref x)) (k : Run D y cc nL rt X ρ (pc + 1) L (.ref x :: st) σ o) : Run D y cc nL rt X ρ pc L st σ o := by
  intro z hz base b cy dC dI p l e R s m args below meth c H locs cells slots Q ls C hl hF
  obtain ⟨a', ha'⟩ := cv_ref (base := base) (b := b) (a := x)
  have h1 := k z hz base b cy dC dI p l e R s m args below meth c H locs cells slots Q ls C hl hF
  have h2 := lmap_at hl hq
  simp only [List.map_cons, ha'] at h1 h2
  exact lv_aload_n C.1.1 C.1.2.1 hd hi h2 h1
theorem r_aload {i : Nat} {x : Nat} (hd : decode cc pc = .ok (.aload i, 2)) (q : Nat) (hq : L[q]? = some (i, .ref x)) (k : Run D y cc nL rt X ρ (pc + 2) L (.ref x :: st) σ o) : Run D y cc nL rt X ρ pc L st σ o := by
  intro z hz base b cy dC dI p l e R s m args below meth c H locs cells slots Q ls C hl hF
  obtain ⟨a', ha'⟩ := cv_ref (base := base) (b := b) (a := x)
  have h1 := k z hz base b cy dC dI p l e R s m args below meth c H locs cells slots Q ls C hl hF
  have h2 := lmap_at hl hq
  simp only [List.map_cons, ha'] at h1 h2
  exact lv_aload C.1.1 C.1.2.1 hd h2 h1
theorem r_istore_n {n : Fin 4} {i : Nat} {x : Int32} (hd : decode cc pc = .ok (.istore_n n, 1)) (hi : (n : Nat) = i) (hn : i < nL) (hL : st1 L i (.int x) = L') (k : Run D y cc nL rt X ρ (pc + 1) L' st σ o) : Run D y cc nL rt X ρ pc L (.int x :: st) σ o := by
  intro z hz base b cy dC dI p l e R s m args below meth c H locs cells slots Q ls C hl hF
  subst hL
  exact lv_istore_n C.1.1 C.1.2.1 hd hi hl hn (lmap_st1 (v := .int x)) (fun ls' hl' => k z hz base b cy dC dI p l e R s m args below meth c H locs cells slots Q ls' C hl' hF)
theorem r_istore {i : Nat} {x : Int32} (hd : decode cc pc = .ok (.istore i, 2)) (hn : i < nL) (hL : st1 L i (.int x) = L') (k : Run D y cc nL rt X ρ (pc + 2) L' st σ o) : Run D y cc nL rt X ρ pc L (.int x :: st) σ o := by
  intro z hz base b cy dC dI p l e R s m args below meth c H locs cells slots Q ls C hl hF
  subst hL
  exact lv_istore C.1.1 C.1.2.1 hd hl hn (lmap_st1 (v := .int x)) (fun ls' hl' => k z hz base b cy dC dI p l e R s m args below meth c H locs cells slots Q ls' C hl' hF)
theorem r_lstore_n {n : Fin 4} {i : Nat} {x : Int64} (hd : decode cc pc = .ok (.lstore_n n, 1)) (hi : (n : Nat) = i) (hn : i + 1 < nL) (hL : st2 L i (.long x) = L') (k : Run D y cc nL rt X ρ (pc + 1) L' st σ o) : Run D y cc nL rt X ρ pc L (.long x :: st) σ o := by
  intro z hz base b cy dC dI p l e R s m args below meth c H locs cells slots Q ls C hl hF
  subst hL
  exact lv_lstore_n C.1.1 C.1.2.1 hd hi hl hn (lmap_st2 (v := .long x)) (fun ls' hl' => k z hz base b cy dC dI p l e R s m args below meth c H locs cells slots Q ls' C hl' hF)
theorem r_lstore {i : Nat} {x : Int64} (hd : decode cc pc = .ok (.lstore i, 2)) (hn : i + 1 < nL) (hL : st2 L i (.long x) = L') (k : Run D y cc nL rt X ρ (pc + 2) L' st σ o) : Run D y cc nL rt X ρ pc L (.long x :: st) σ o := by
  intro z hz base b cy dC dI p l e R s m args below meth c H locs cells slots Q ls C hl hF
  subst hL
  exact lv_lstore C.1.1 C.1.2.1 hd hl hn (lmap_st2 (v := .long x)) (fun ls' hl' => k z hz base b cy dC dI p l e R s m args below meth c H locs cells slots Q ls' C hl' hF)
theorem r_astore_n {n : Fin 4} {i x : Nat} (hd : decode cc pc = .ok (.astore_n n, 1)) (hi : (n : Nat) = i) (hn : i < nL) (hL : st1 L i (.ref x) = L') (k : Run D y cc nL rt X ρ (pc + 1) L' st σ o) : Run D y cc nL rt X ρ pc L (.ref x :: st) σ o := by
  intro z hz base b cy dC dI p l e R s m args below meth c H locs cells slots Q ls C hl hF
  subst hL
  obtain ⟨a', ha'⟩ := cv_ref (base := base) (b := b) (a := x)
  have h3 := lmap_st1 (base := base) (b := b) (L := L) (i := i) (v := .ref x)
  simp only [List.map_cons, ha'] at h3 ⊢
  exact lv_astore_n C.1.1 C.1.2.1 hd hi hl hn h3 (fun ls' hl' => k z hz base b cy dC dI p l e R s m args below meth c H locs cells slots Q ls' C hl' hF)
theorem r_astore {i x : Nat} (hd : decode cc pc = .ok (.astore i, 2)) (hn : i < nL) (hL : st1 L i (.ref x) = L') (k : Run D y cc nL rt X ρ (pc + 2) L' st σ o) : Run D y cc nL rt X ρ pc L (.ref x :: st) σ o := by
  intro z hz base b cy dC dI p l e R s m args below meth c H locs cells slots Q ls C hl hF
  subst hL
  obtain ⟨a', ha'⟩ := cv_ref (base := base) (b := b) (a := x)
  have h3 := lmap_st1 (base := base) (b := b) (L := L) (i := i) (v := .ref x)
  simp only [List.map_cons, ha'] at h3 ⊢
  exact lv_astore C.1.1 C.1.2.1 hd hl hn h3 (fun ls' hl' => k z hz base b cy dC dI p l e R s m args below meth c H locs cells slots Q ls' C hl' hF)
theorem r_iinc {i : Nat} {n : Int} {x v : Int32} (hd : decode cc pc = .ok (.iinc i n, 3)) (q : Nat) (hq : L[q]? = some (i, .int x)) (hv : x + Int32.ofInt n = v) (hn : i < nL) (hL : st1 L i (.int v) = L') (k : Run D y cc nL rt X ρ (pc + 3) L' st σ o) : Run D y cc nL rt X ρ pc L st σ o := by
  intro z hz base b cy dC dI p l e R s m args below meth c H locs cells slots Q ls C hl hF
  subst hL
  exact lv_iinc C.1.1 C.1.2.1 hd hl (k := q) (by rw [lmap, List.getElem?_map, hq]; rfl) hv hn (lmap_st1 (v := .int v)) (fun ls' hl' => k z hz base b cy dC dI p l e R s m args below meth c H locs cells slots Q ls' C hl' hF)
theorem r_iadd {x u : Int32} (hd : decode cc pc = .ok (.iadd, 1)) (k : Run D y cc nL rt X ρ (pc + 1) L (.int (x + u) :: st) σ o) : Run D y cc nL rt X ρ pc L (.int u :: .int x :: st) σ o := by
  intro z hz base b cy dC dI p l e R s m args below meth c H locs cells slots Q ls C hl hF
  exact lv_iadd C.1.1 C.1.2.1 hd (k z hz base b cy dC dI p l e R s m args below meth c H locs cells slots Q ls C hl hF)
theorem r_isub {x u : Int32} (hd : decode cc pc = .ok (.isub, 1)) (k : Run D y cc nL rt X ρ (pc + 1) L (.int (x - u) :: st) σ o) : Run D y cc nL rt X ρ pc L (.int u :: .int x :: st) σ o := by
  intro z hz base b cy dC dI p l e R s m args below meth c H locs cells slots Q ls C hl hF
  exact lv_isub C.1.1 C.1.2.1 hd (k z hz base b cy dC dI p l e R s m args below meth c H locs cells slots Q ls C hl hF)
theorem r_imul {x u : Int32} (hd : decode cc pc = .ok (.imul, 1)) (k : Run D y cc nL rt X ρ (pc + 1) L (.int (x * u) :: st) σ o) : Run D y cc nL rt X ρ pc L (.int u :: .int x :: st) σ o := by
  intro z hz base b cy dC dI p l e R s m args below meth c H locs cells slots Q ls C hl hF
  exact lv_imul C.1.1 C.1.2.1 hd (k z hz base b cy dC dI p l e R s m args below meth c H locs cells slots Q ls C hl hF)
theorem r_iand {x u : Int32} (hd : decode cc pc = .ok (.iand, 1)) (k : Run D y cc nL rt X ρ (pc + 1) L (.int (x &&& u) :: st) σ o) : Run D y cc nL rt X ρ pc L (.int u :: .int x :: st) σ o := by
  intro z hz base b cy dC dI p l e R s m args below meth c H locs cells slots Q ls C hl hF
  exact lv_iand C.1.1 C.1.2.1 hd (k z hz base b cy dC dI p l e R s m args below meth c H locs cells slots Q ls C hl hF)
theorem r_ior {x u : Int32} (hd : decode cc pc = .ok (.ior, 1)) (k : Run D y cc nL rt X ρ (pc + 1) L (.int (x ||| u) :: st) σ o) : Run D y cc nL rt X ρ pc L (.int u :: .int x :: st) σ o := by
  intro z hz base b cy dC dI p l e R s m args below meth c H locs cells slots Q ls C hl hF
  exact lv_ior C.1.1 C.1.2.1 hd (k z hz base b cy dC dI p l e R s m args below meth c H locs cells slots Q ls C hl hF)
theorem r_ixor {x u : Int32} (hd : decode cc pc = .ok (.ixor, 1)) (k : Run D y cc nL rt X ρ (pc + 1) L (.int (x ^^^ u) :: st) σ o) : Run D y cc nL rt X ρ pc L (.int u :: .int x :: st) σ o := by
  intro z hz base b cy dC dI p l e R s m args below meth c H locs cells slots Q ls C hl hF
  exact lv_ixor C.1.1 C.1.2.1 hd (k z hz base b cy dC dI p l e R s m args below meth c H locs cells slots Q ls C hl hF)
theorem r_ishl {x u : Int32} (hd : decode cc pc = .ok (.ishl, 1)) (k : Run D y cc nL rt X ρ (pc + 1) L (.int (x <<< (u &&& 31)) :: st) σ o) : Run D y cc nL rt X ρ pc L (.int u :: .int x :: st) σ o := by
  intro z hz base b cy dC dI p l e R s m args below meth c H locs cells slots Q ls C hl hF
  exact lv_ishl C.1.1 C.1.2.1 hd (k z hz base b cy dC dI p l e R s m args below meth c H locs cells slots Q ls C hl hF)
theorem r_ishr {x u : Int32} (hd : decode cc pc = .ok (.ishr, 1)) (k : Run D y cc nL rt X ρ (pc + 1) L (.int (x >>> (u &&& 31)) :: st) σ o) : Run D y cc nL rt X ρ pc L (.int u :: .int x :: st) σ o := by
  intro z hz base b cy dC dI p l e R s m args below meth c H locs cells slots Q ls C hl hF
  exact lv_ishr C.1.1 C.1.2.1 hd (k z hz base b cy dC dI p l e R s m args below meth c H locs cells slots Q ls C hl hF)
theorem r_ladd {x u : Int64} (hd : decode cc pc = .ok (.ladd, 1)) (k : Run D y cc nL rt X ρ (pc + 1) L (.long (x + u) :: st) σ o) : Run D y cc nL rt X ρ pc L (.long u :: .long x :: st) σ o := by
  intro z hz base b cy dC dI p l e R s m args below meth c H locs cells slots Q ls C hl hF
  exact lv_ladd C.1.1 C.1.2.1 hd (k z hz base b cy dC dI p l e R s m args below meth c H locs cells slots Q ls C hl hF)
theorem r_lsub {x u : Int64} (hd : decode cc pc = .ok (.lsub, 1)) (k : Run D y cc nL rt X ρ (pc + 1) L (.long (x - u) :: st) σ o) : Run D y cc nL rt X ρ pc L (.long u :: .long x :: st) σ o := by
  intro z hz base b cy dC dI p l e R s m args below meth c H locs cells slots Q ls C hl hF
  exact lv_lsub C.1.1 C.1.2.1 hd (k z hz base b cy dC dI p l e R s m args below meth c H locs cells slots Q ls C hl hF)
theorem r_lmul {x u : Int64} (hd : decode cc pc = .ok (.lmul, 1)) (k : Run D y cc nL rt X ρ (pc + 1) L (.long (x * u) :: st) σ o) : Run D y cc nL rt X ρ pc L (.long u :: .long x :: st) σ o := by
  intro z hz base b cy dC dI p l e R s m args below meth c H locs cells slots Q ls C hl hF
  exact lv_lmul C.1.1 C.1.2.1 hd (k z hz base b cy dC dI p l e R s m args below meth c H locs cells slots Q ls C hl hF)
theorem r_land {x u : Int64} (hd : decode cc pc = .ok (.land, 1)) (k : Run D y cc nL rt X ρ (pc + 1) L (.long (x &&& u) :: st) σ o) : Run D y cc nL rt X ρ pc L (.long u :: .long x :: st) σ o := by
  intro z hz base b cy dC dI p l e R s m args below meth c H locs cells slots Q ls C hl hF
  exact lv_land C.1.1 C.1.2.1 hd (k z hz base b cy dC dI p l e R s m args below meth c H locs cells slots Q ls C hl hF)
theorem r_lor {x u : Int64} (hd : decode cc pc = .ok (.lor, 1)) (k : Run D y cc nL rt X ρ (pc + 1) L (.long (x ||| u) :: st) σ o) : Run D y cc nL rt X ρ pc L (.long u :: .long x :: st) σ o := by
  intro z hz base b cy dC dI p l e R s m args below meth c H locs cells slots Q ls C hl hF
  exact lv_lor C.1.1 C.1.2.1 hd (k z hz base b cy dC dI p l e R s m args below meth c H locs cells slots Q ls C hl hF)
theorem r_ineg {x : Int32} (hd : decode cc pc = .ok (.ineg, 1)) (k : Run D y cc nL rt X ρ (pc + 1) L (.int (-x) :: st) σ o) : Run D y cc nL rt X ρ pc L (.int x :: st) σ o := by
  intro z hz base b cy dC dI p l e R s m args below meth c H locs cells slots Q ls C hl hF
  exact lv_ineg C.1.1 C.1.2.1 hd (k z hz base b cy dC dI p l e R s m args below meth c H locs cells slots Q ls C hl hF)
theorem r_iushr {x u : Int32} (hd : decode cc pc = .ok (.iushr, 1)) (k : Run D y cc nL rt X ρ (pc + 1) L (.int ((x.toUInt32 >>> (u.toUInt32 &&& Int32.toUInt32 31)).toInt32) :: st) σ o) : Run D y cc nL rt X ρ pc L (.int u :: .int x :: st) σ o := by
  intro z hz base b cy dC dI p l e R s m args below meth c H locs cells slots Q ls C hl hF
  exact lv_iushr C.1.1 C.1.2.1 hd rfl (k z hz base b cy dC dI p l e R s m args below meth c H locs cells slots Q ls C hl hF)
theorem r_lushr {x : Int64} {u : Int32} (hd : decode cc pc = .ok (.lushr, 1)) (k : Run D y cc nL rt X ρ (pc + 1) L (.long ((x.toUInt64 >>> (u.toInt64.toUInt64 &&& Int64.toUInt64 63)).toInt64) :: st) σ o) : Run D y cc nL rt X ρ pc L (.int u :: .long x :: st) σ o := by
  intro z hz base b cy dC dI p l e R s m args below meth c H locs cells slots Q ls C hl hF
  exact lv_lushr C.1.1 C.1.2.1 hd rfl (k z hz base b cy dC dI p l e R s m args below meth c H locs cells slots Q ls C hl hF)
theorem r_lshl {x : Int64} {u : Int32} (hd : decode cc pc = .ok (.lshl, 1)) (k : Run D y cc nL rt X ρ (pc + 1) L (.long (x <<< (u.toInt64 &&& 63)) :: st) σ o) : Run D y cc nL rt X ρ pc L (.int u :: .long x :: st) σ o := by
  intro z hz base b cy dC dI p l e R s m args below meth c H locs cells slots Q ls C hl hF
  exact lv_lshl C.1.1 C.1.2.1 hd rfl (k z hz base b cy dC dI p l e R s m args below meth c H locs cells slots Q ls C hl hF)
theorem r_lshr {x : Int64} {u : Int32} (hd : decode cc pc = .ok (.lshr, 1)) (k : Run D y cc nL rt X ρ (pc + 1) L (.long (x >>> (u.toInt64 &&& 63)) :: st) σ o) : Run D y cc nL rt X ρ pc L (.int u :: .long x :: st) σ o := by
  intro z hz base b cy dC dI p l e R s m args below meth c H locs cells slots Q ls C hl hF
  exact lv_lshr C.1.1 C.1.2.1 hd rfl (k z hz base b cy dC dI p l e R s m args below meth c H locs cells slots Q ls C hl hF)
theorem r_i2l {x : Int32} (hd : decode cc pc = .ok (.i2l, 1)) (k : Run D y cc nL rt X ρ (pc + 1) L (.long x.toInt64 :: st) σ o) : Run D y cc nL rt X ρ pc L (.int x :: st) σ o := by
  intro z hz base b cy dC dI p l e R s m args below meth c H locs cells slots Q ls C hl hF
  exact lv_i2l C.1.1 C.1.2.1 hd rfl (k z hz base b cy dC dI p l e R s m args below meth c H locs cells slots Q ls C hl hF)
theorem r_l2i {x : Int64} (hd : decode cc pc = .ok (.l2i, 1)) (k : Run D y cc nL rt X ρ (pc + 1) L (.int x.toInt32 :: st) σ o) : Run D y cc nL rt X ρ pc L (.long x :: st) σ o := by
  intro z hz base b cy dC dI p l e R s m args below meth c H locs cells slots Q ls C hl hF
  exact lv_l2i C.1.1 C.1.2.1 hd rfl (k z hz base b cy dC dI p l e R s m args below meth c H locs cells slots Q ls C hl hF)
theorem r_i2b {x : Int32} (hd : decode cc pc = .ok (.i2b, 1)) (k : Run D y cc nL rt X ρ (pc + 1) L (.int x.toInt8.toInt32 :: st) σ o) : Run D y cc nL rt X ρ pc L (.int x :: st) σ o := by
  intro z hz base b cy dC dI p l e R s m args below meth c H locs cells slots Q ls C hl hF
  exact lv_i2b C.1.1 C.1.2.1 hd rfl (k z hz base b cy dC dI p l e R s m args below meth c H locs cells slots Q ls C hl hF)
theorem r_i2s {x : Int32} (hd : decode cc pc = .ok (.i2s, 1)) (k : Run D y cc nL rt X ρ (pc + 1) L (.int x.toInt16.toInt32 :: st) σ o) : Run D y cc nL rt X ρ pc L (.int x :: st) σ o := by
  intro z hz base b cy dC dI p l e R s m args below meth c H locs cells slots Q ls C hl hF
  exact lv_i2s C.1.1 C.1.2.1 hd rfl (k z hz base b cy dC dI p l e R s m args below meth c H locs cells slots Q ls C hl hF)
theorem r_idiv {x u : Int32} (hd : decode cc pc = .ok (.idiv, 1)) (k : ¬ u = 0 → Run D y cc nL rt X ρ (pc + 1) L (.int (x / u) :: st) σ o) : Run D y cc nL rt X ρ pc L (.int u :: .int x :: st) σ (if u = 0 then none else o) := by
  refine r_if (fun _ => r_none) (fun h => ?_)
  intro z hz base b cy dC dI p l e R s m args below meth c H locs cells slots Q ls C hl hF
  exact lv_idiv C.1.1 C.1.2.1 hd h (k h z hz base b cy dC dI p l e R s m args below meth c H locs cells slots Q ls C hl hF)
theorem r_irem {x u : Int32} (hd : decode cc pc = .ok (.irem, 1)) (k : ¬ u = 0 → Run D y cc nL rt X ρ (pc + 1) L (.int (x - x / u * u) :: st) σ o) : Run D y cc nL rt X ρ pc L (.int u :: .int x :: st) σ (if u = 0 then none else o) := by
  refine r_if (fun _ => r_none) (fun h => ?_)
  intro z hz base b cy dC dI p l e R s m args below meth c H locs cells slots Q ls C hl hF
  exact lv_irem C.1.1 C.1.2.1 hd h (k h z hz base b cy dC dI p l e R s m args below meth c H locs cells slots Q ls C hl hF)
theorem r_ldiv {x u : Int64} (hd : decode cc pc = .ok (.ldiv, 1)) (k : ¬ u = 0 → Run D y cc nL rt X ρ (pc + 1) L (.long (x / u) :: st) σ o) : Run D y cc nL rt X ρ pc L (.long u :: .long x :: st) σ (if u = 0 then none else o) := by
  refine r_if (fun _ => r_none) (fun h => ?_)
  intro z hz base b cy dC dI p l e R s m args below meth c H locs cells slots Q ls C hl hF
  exact lv_ldiv C.1.1 C.1.2.1 hd h (k h z hz base b cy dC dI p l e R s m args below meth c H locs cells slots Q ls C hl hF)
theorem r_lrem {x u : Int64} (hd : decode cc pc = .ok (.lrem, 1)) (k : ¬ u = 0 → Run D y cc nL rt X ρ (pc + 1) L (.long (x - x / u * u) :: st) σ o) : Run D y cc nL rt X ρ pc L (.long u :: .long x :: st) σ (if u = 0 then none else o) := by
  refine r_if (fun _ => r_none) (fun h => ?_)
  intro z hz base b cy dC dI p l e R s m args below meth c H locs cells slots Q ls C hl hF
  exact lv_lrem C.1.1 C.1.2.1 hd h (k h z hz base b cy dC dI p l e R s m args below meth c H locs cells slots Q ls C hl hF)
theorem r_dup {v : Value} (hd : decode cc pc = .ok (.dup, 1)) (hv : v.category = 1) (k : Run D y cc nL rt X ρ (pc + 1) L (v :: v :: st) σ o) : Run D y cc nL rt X ρ pc L (v :: st) σ o := by
  intro z hz base b cy dC dI p l e R s m args below meth c H locs cells slots Q ls C hl hF
  exact lv_dup C.1.1 C.1.2.1 hd ((cv_cat _ _ _).trans hv) (k z hz base b cy dC dI p l e R s m args below meth c H locs cells slots Q ls C hl hF)
theorem r_pop {v : Value} (hd : decode cc pc = .ok (.pop, 1)) (hv : v.category = 1) (k : Run D y cc nL rt X ρ (pc + 1) L st σ o) : Run D y cc nL rt X ρ pc L (v :: st) σ o := by
  intro z hz base b cy dC dI p l e R s m args below meth c H locs cells slots Q ls C hl hF
  exact lv_pop C.1.1 C.1.2.1 hd ((cv_cat _ _ _).trans hv) (k z hz base b cy dC dI p l e R s m args below meth c H locs cells slots Q ls C hl hF)
theorem r_dup2 {v u : Value} (hd : decode cc pc = .ok (.dup2, 1)) (hv : v.category = 1) (hu : u.category = 1) (k : Run D y cc nL rt X ρ (pc + 1) L (v :: u :: v :: u :: st) σ o) : Run D y cc nL rt X ρ pc L (v :: u :: st) σ o := by
  intro z hz base b cy dC dI p l e R s m args below meth c H locs cells slots Q ls C hl hF
  exact lv_dup2_11 C.1.1 C.1.2.1 hd ((cv_cat _ _ _).trans hv) ((cv_cat _ _ _).trans hu) (k z hz base b cy dC dI p l e R s m args below meth c H locs cells slots Q ls C hl hF)
theorem r_goto {off : Int} {tgt : Nat} (hd : decode cc pc = .ok (.goto off, 3)) (ht : (pc : Int) + off = (tgt : Int)) (k : Run D y cc nL rt X ρ tgt L st σ o) : Run D y cc nL rt X ρ pc L st σ o := by
  intro z hz base b cy dC dI p l e R s m args below meth c H locs cells slots Q ls C hl hF
  exact lv_goto C.1.1 C.1.2.1 hd ht (k z hz base b cy dC dI p l e R s m args below meth c H locs cells slots Q ls C hl hF)
theorem r_icmp_eq {x u : Int32} {off : Int} {tgt : Nat} (hd : decode cc pc = .ok (.if_icmp .eq off, 3)) (ht : (pc : Int) + off = (tgt : Int)) (kt : x = u → Run D y cc nL rt X ρ tgt L st σ A) (kf : ¬ (x = u) → Run D y cc nL rt X ρ (pc + 3) L st σ B) : Run D y cc nL rt X ρ pc L (.int u :: .int x :: st) σ (if x = u then A else B) := by
  intro z hz base b cy dC dI p l e R s m args below meth c H locs cells slots Q ls C hl hF
  exact lv_icmp_eq C.1.1 C.1.2.1 hd ht (fun h => kt h z (by rw [if_pos h] at hz; exact hz) base b cy dC dI p l e R s m args below meth c H locs cells slots Q ls C hl hF) (fun h => kf h z (by rw [if_neg h] at hz; exact hz) base b cy dC dI p l e R s m args below meth c H locs cells slots Q ls C hl hF)
theorem r_if_eq {x : Int32} {off : Int} {tgt : Nat} (hd : decode cc pc = .ok (.ifCond .eq off, 3)) (ht : (pc : Int) + off = (tgt : Int)) (kt : x = 0 → Run D y cc nL rt X ρ tgt L st σ A) (kf : ¬ (x = 0) → Run D y cc nL rt X ρ (pc + 3) L st σ B) : Run D y cc nL rt X ρ pc L (.int x :: st) σ (if x = 0 then A else B) := by
  intro z hz base b cy dC dI p l e R s m args below meth c H locs cells slots Q ls C hl hF
  exact lv_if_eq C.1.1 C.1.2.1 hd ht (fun h => kt h z (by rw [if_pos h] at hz; exact hz) base b cy dC dI p l e R s m args below meth c H locs cells slots Q ls C hl hF) (fun h => kf h z (by rw [if_neg h] at hz; exact hz) base b cy dC dI p l e R s m args below meth c H locs cells slots Q ls C hl hF)
theorem r_icmp_lt {x u : Int32} {off : Int} {tgt : Nat} (hd : decode cc pc = .ok (.if_icmp .lt off, 3)) (ht : (pc : Int) + off = (tgt : Int)) (kt : x < u → Run D y cc nL rt X ρ tgt L st σ A) (kf : ¬ (x < u) → Run D y cc nL rt X ρ (pc + 3) L st σ B) : Run D y cc nL rt X ρ pc L (.int u :: .int x :: st) σ (if x < u then A else B) := by
  intro z hz base b cy dC dI p l e R s m args below meth c H locs cells slots Q ls C hl hF
  exact lv_icmp_lt C.1.1 C.1.2.1 hd ht (fun h => kt h z (by rw [if_pos h] at hz; exact hz) base b cy dC dI p l e R s m args below meth c H locs cells slots Q ls C hl hF) (fun h => kf h z (by rw [if_neg h] at hz; exact hz) base b cy dC dI p l e R s m args below meth c H locs cells slots Q ls C hl hF)
theorem r_if_lt {x : Int32} {off : Int} {tgt : Nat} (hd : decode cc pc = .ok (.ifCond .lt off, 3)) (ht : (pc : Int) + off = (tgt : Int)) (kt : x < 0 → Run D y cc nL rt X ρ tgt L st σ A) (kf : ¬ (x < 0) → Run D y cc nL rt X ρ (pc + 3) L st σ B) : Run D y cc nL rt X ρ pc L (.int x :: st) σ (if x < 0 then A else B) := by
  intro z hz base b cy dC dI p l e R s m args below meth c H locs cells slots Q ls C hl hF
  exact lv_if_lt C.1.1 C.1.2.1 hd ht (fun h => kt h z (by rw [if_pos h] at hz; exact hz) base b cy dC dI p l e R s m args below meth c H locs cells slots Q ls C hl hF) (fun h => kf h z (by rw [if_neg h] at hz; exact hz) base b cy dC dI p l e R s m args below meth c H locs cells slots Q ls C hl hF)
theorem r_icmp_ge {x u : Int32} {off : Int} {tgt : Nat} (hd : decode cc pc = .ok (.if_icmp .ge off, 3)) (ht : (pc : Int) + off = (tgt : Int)) (kt : u ≤ x → Run D y cc nL rt X ρ tgt L st σ A) (kf : ¬ (u ≤ x) → Run D y cc nL rt X ρ (pc + 3) L st σ B) : Run D y cc nL rt X ρ pc L (.int u :: .int x :: st) σ (if u ≤ x then A else B) := by
  intro z hz base b cy dC dI p l e R s m args below meth c H locs cells slots Q ls C hl hF
  exact lv_icmp_ge C.1.1 C.1.2.1 hd ht (fun h => kt h z (by rw [if_pos h] at hz; exact hz) base b cy dC dI p l e R s m args below meth c H locs cells slots Q ls C hl hF) (fun h => kf h z (by rw [if_neg h] at hz; exact hz) base b cy dC dI p l e R s m args below meth c H locs cells slots Q ls C hl hF)
theorem r_if_ge {x : Int32} {off : Int} {tgt : Nat} (hd : decode cc pc = .ok (.ifCond .ge off, 3)) (ht : (pc : Int) + off = (tgt : Int)) (kt : 0 ≤ x → Run D y cc nL rt X ρ tgt L st σ A) (kf : ¬ (0 ≤ x) → Run D y cc nL rt X ρ (pc + 3) L st σ B) : Run D y cc nL rt X ρ pc L (.int x :: st) σ (if 0 ≤ x then A else B) := by
  intro z hz base b cy dC dI p l e R s m args below meth c H locs cells slots Q ls C hl hF
  exact lv_if_ge C.1.1 C.1.2.1 hd ht (fun h => kt h z (by rw [if_pos h] at hz; exact hz) base b cy dC dI p l e R s m args below meth c H locs cells slots Q ls C hl hF) (fun h => kf h z (by rw [if_neg h] at hz; exact hz) base b cy dC dI p l e R s m args below meth c H locs cells slots Q ls C hl hF)
theorem r_icmp_gt {x u : Int32} {off : Int} {tgt : Nat} (hd : decode cc pc = .ok (.if_icmp .gt off, 3)) (ht : (pc : Int) + off = (tgt : Int)) (kt : u < x → Run D y cc nL rt X ρ tgt L st σ A) (kf : ¬ (u < x) → Run D y cc nL rt X ρ (pc + 3) L st σ B) : Run D y cc nL rt X ρ pc L (.int u :: .int x :: st) σ (if u < x then A else B) := by
  intro z hz base b cy dC dI p l e R s m args below meth c H locs cells slots Q ls C hl hF
  exact lv_icmp_gt C.1.1 C.1.2.1 hd ht (fun h => kt h z (by rw [if_pos h] at hz; exact hz) base b cy dC dI p l e R s m args below meth c H locs cells slots Q ls C hl hF) (fun h => kf h z (by rw [if_neg h] at hz; exact hz) base b cy dC dI p l e R s m args below meth c H locs cells slots Q ls C hl hF)
theorem r_if_gt {x : Int32} {off : Int} {tgt : Nat} (hd : decode cc pc = .ok (.ifCond .gt off, 3)) (ht : (pc : Int) + off = (tgt : Int)) (kt : 0 < x → Run D y cc nL rt X ρ tgt L st σ A) (kf : ¬ (0 < x) → Run D y cc nL rt X ρ (pc + 3) L st σ B) : Run D y cc nL rt X ρ pc L (.int x :: st) σ (if 0 < x then A else B) := by
  intro z hz base b cy dC dI p l e R s m args below meth c H locs cells slots Q ls C hl hF
  exact lv_if_gt C.1.1 C.1.2.1 hd ht (fun h => kt h z (by rw [if_pos h] at hz; exact hz) base b cy dC dI p l e R s m args below meth c H locs cells slots Q ls C hl hF) (fun h => kf h z (by rw [if_neg h] at hz; exact hz) base b cy dC dI p l e R s m args below meth c H locs cells slots Q ls C hl hF)
theorem r_icmp_le {x u : Int32} {off : Int} {tgt : Nat} (hd : decode cc pc = .ok (.if_icmp .le off, 3)) (ht : (pc : Int) + off = (tgt : Int)) (kt : x ≤ u → Run D y cc nL rt X ρ tgt L st σ A) (kf : ¬ (x ≤ u) → Run D y cc nL rt X ρ (pc + 3) L st σ B) : Run D y cc nL rt X ρ pc L (.int u :: .int x :: st) σ (if x ≤ u then A else B) := by
  intro z hz base b cy dC dI p l e R s m args below meth c H locs cells slots Q ls C hl hF
  exact lv_icmp_le C.1.1 C.1.2.1 hd ht (fun h => kt h z (by rw [if_pos h] at hz; exact hz) base b cy dC dI p l e R s m args below meth c H locs cells slots Q ls C hl hF) (fun h => kf h z (by rw [if_neg h] at hz; exact hz) base b cy dC dI p l e R s m args below meth c H locs cells slots Q ls C hl hF)
theorem r_if_le {x : Int32} {off : Int} {tgt : Nat} (hd : decode cc pc = .ok (.ifCond .le off, 3)) (ht : (pc : Int) + off = (tgt : Int)) (kt : x ≤ 0 → Run D y cc nL rt X ρ tgt L st σ A) (kf : ¬ (x ≤ 0) → Run D y cc nL rt X ρ (pc + 3) L st σ B) : Run D y cc nL rt X ρ pc L (.int x :: st) σ (if x ≤ 0 then A else B) := by
  intro z hz base b cy dC dI p l e R s m args below meth c H locs cells slots Q ls C hl hF
  exact lv_if_le C.1.1 C.1.2.1 hd ht (fun h => kt h z (by rw [if_pos h] at hz; exact hz) base b cy dC dI p l e R s m args below meth c H locs cells slots Q ls C hl hF) (fun h => kf h z (by rw [if_neg h] at hz; exact hz) base b cy dC dI p l e R s m args below meth c H locs cells slots Q ls C hl hF)
theorem r_icmp_ne {x u : Int32} {off : Int} {tgt : Nat} (hd : decode cc pc = .ok (.if_icmp .ne off, 3)) (ht : (pc : Int) + off = (tgt : Int)) (kf : x = u → Run D y cc nL rt X ρ (pc + 3) L st σ B) (kt : ¬ (x = u) → Run D y cc nL rt X ρ tgt L st σ A) : Run D y cc nL rt X ρ pc L (.int u :: .int x :: st) σ (if x = u then B else A) := by
  intro z hz base b cy dC dI p l e R s m args below meth c H locs cells slots Q ls C hl hF
  exact lv_icmp_ne C.1.1 C.1.2.1 hd ht (fun h => kt h z (by rw [if_neg h] at hz; exact hz) base b cy dC dI p l e R s m args below meth c H locs cells slots Q ls C hl hF) (fun h => kf h z (by rw [if_pos h] at hz; exact hz) base b cy dC dI p l e R s m args below meth c H locs cells slots Q ls C hl hF)
theorem r_if_ne {x : Int32} {off : Int} {tgt : Nat} (hd : decode cc pc = .ok (.ifCond .ne off, 3)) (ht : (pc : Int) + off = (tgt : Int)) (kf : x = 0 → Run D y cc nL rt X ρ (pc + 3) L st σ B) (kt : ¬ (x = 0) → Run D y cc nL rt X ρ tgt L st σ A) : Run D y cc nL rt X ρ pc L (.int x :: st) σ (if x = 0 then B else A) := by
  intro z hz base b cy dC dI p l e R s m args below meth c H locs cells slots Q ls C hl hF
  exact lv_if_ne C.1.1 C.1.2.1 hd ht (fun h => kt h z (by rw [if_neg h] at hz; exact hz) base b cy dC dI p l e R s m args below meth c H locs cells slots Q ls C hl hF) (fun h => kf h z (by rw [if_pos h] at hz; exact hz) base b cy dC dI p l e R s m args below meth c H locs cells slots Q ls C hl hF)
theorem r_lcmp_eq {x u : Int64} {off : Int} {tgt : Nat} (hd : decode cc pc = .ok (.lcmp, 1)) (hd2 : decode cc (pc + 1) = .ok (.ifCond .eq off, 3)) (ht : ((pc + 1 : Nat) : Int) + off = (tgt : Int)) (kt : x = u → Run D y cc nL rt X ρ tgt L st σ A) (kf : ¬ (x = u) → Run D y cc nL rt X ρ (pc + 4) L st σ B) : Run D y cc nL rt X ρ pc L (.long u :: .long x :: st) σ (if x = u then A else B) := by
  intro z hz base b cy dC dI p l e R s m args below meth c H locs cells slots Q ls C hl hF
  refine W.lcmp C.1.1 C.1.2.1 hd ?_
  exact lv_if_eq C.1.1 C.1.2.1 hd2 ht (fun h => kt ((lg_cmp_eq x u).mp h) z (by rw [if_pos ((lg_cmp_eq x u).mp h)] at hz; exact hz) base b cy dC dI p l e R s m args below meth c H locs cells slots Q ls C hl hF) (fun h => kf (fun h' => h ((lg_cmp_eq x u).mpr h')) z (by rw [if_neg (fun h' => h ((lg_cmp_eq x u).mpr h'))] at hz; exact hz) base b cy dC dI p l e R s m args below meth c H locs cells slots Q ls C hl hF)
theorem r_lcmp_lt {x u : Int64} {off : Int} {tgt : Nat} (hd : decode cc pc = .ok (.lcmp, 1)) (hd2 : decode cc (pc + 1) = .ok (.ifCond .lt off, 3)) (ht : ((pc + 1 : Nat) : Int) + off = (tgt : Int)) (kt : x < u → Run D y cc nL rt X ρ tgt L st σ A) (kf : ¬ (x < u) → Run D y cc nL rt X ρ (pc + 4) L st σ B) : Run D y cc nL rt X ρ pc L (.long u :: .long x :: st) σ (if x < u then A else B) := by
  intro z hz base b cy dC dI p l e R s m args below meth c H locs cells slots Q ls C hl hF
  refine W.lcmp C.1.1 C.1.2.1 hd ?_
  exact lv_if_lt C.1.1 C.1.2.1 hd2 ht (fun h => kt ((lg_cmp_lt x u).mp h) z (by rw [if_pos ((lg_cmp_lt x u).mp h)] at hz; exact hz) base b cy dC dI p l e R s m args below meth c H locs cells slots Q ls C hl hF) (fun h => kf (fun h' => h ((lg_cmp_lt x u).mpr h')) z (by rw [if_neg (fun h' => h ((lg_cmp_lt x u).mpr h'))] at hz; exact hz) base b cy dC dI p l e R s m args below meth c H locs cells slots Q ls C hl hF)
theorem r_lcmp_ge {x u : Int64} {off : Int} {tgt : Nat} (hd : decode cc pc = .ok (.lcmp, 1)) (hd2 : decode cc (pc + 1) = .ok (.ifCond .ge off, 3)) (ht : ((pc + 1 : Nat) : Int) + off = (tgt : Int)) (kt : u ≤ x → Run D y cc nL rt X ρ tgt L st σ A) (kf : ¬ (u ≤ x) → Run D y cc nL rt X ρ (pc + 4) L st σ B) : Run D y cc nL rt X ρ pc L (.long u :: .long x :: st) σ (if u ≤ x then A else B) := by
  intro z hz base b cy dC dI p l e R s m args below meth c H locs cells slots Q ls C hl hF
  refine W.lcmp C.1.1 C.1.2.1 hd ?_
  exact lv_if_ge C.1.1 C.1.2.1 hd2 ht (fun h => kt ((lg_cmp_ge x u).mp h) z (by rw [if_pos ((lg_cmp_ge x u).mp h)] at hz; exact hz) base b cy dC dI p l e R s m args below meth c H locs cells slots Q ls C hl hF) (fun h => kf (fun h' => h ((lg_cmp_ge x u).mpr h')) z (by rw [if_neg (fun h' => h ((lg_cmp_ge x u).mpr h'))] at hz; exact hz) base b cy dC dI p l e R s m args below meth c H locs cells slots Q ls C hl hF)
theorem r_lcmp_gt {x u : Int64} {off : Int} {tgt : Nat} (hd : decode cc pc = .ok (.lcmp, 1)) (hd2 : decode cc (pc + 1) = .ok (.ifCond .gt off, 3)) (ht : ((pc + 1 : Nat) : Int) + off = (tgt : Int)) (kt : u < x → Run D y cc nL rt X ρ tgt L st σ A) (kf : ¬ (u < x) → Run D y cc nL rt X ρ (pc + 4) L st σ B) : Run D y cc nL rt X ρ pc L (.long u :: .long x :: st) σ (if u < x then A else B) := by
  intro z hz base b cy dC dI p l e R s m args below meth c H locs cells slots Q ls C hl hF
  refine W.lcmp C.1.1 C.1.2.1 hd ?_
  exact lv_if_gt C.1.1 C.1.2.1 hd2 ht (fun h => kt ((lg_cmp_gt x u).mp h) z (by rw [if_pos ((lg_cmp_gt x u).mp h)] at hz; exact hz) base b cy dC dI p l e R s m args below meth c H locs cells slots Q ls C hl hF) (fun h => kf (fun h' => h ((lg_cmp_gt x u).mpr h')) z (by rw [if_neg (fun h' => h ((lg_cmp_gt x u).mpr h'))] at hz; exact hz) base b cy dC dI p l e R s m args below meth c H locs cells slots Q ls C hl hF)
theorem r_lcmp_le {x u : Int64} {off : Int} {tgt : Nat} (hd : decode cc pc = .ok (.lcmp, 1)) (hd2 : decode cc (pc + 1) = .ok (.ifCond .le off, 3)) (ht : ((pc + 1 : Nat) : Int) + off = (tgt : Int)) (kt : x ≤ u → Run D y cc nL rt X ρ tgt L st σ A) (kf : ¬ (x ≤ u) → Run D y cc nL rt X ρ (pc + 4) L st σ B) : Run D y cc nL rt X ρ pc L (.long u :: .long x :: st) σ (if x ≤ u then A else B) := by
  intro z hz base b cy dC dI p l e R s m args below meth c H locs cells slots Q ls C hl hF
  refine W.lcmp C.1.1 C.1.2.1 hd ?_
  exact lv_if_le C.1.1 C.1.2.1 hd2 ht (fun h => kt ((lg_cmp_le x u).mp h) z (by rw [if_pos ((lg_cmp_le x u).mp h)] at hz; exact hz) base b cy dC dI p l e R s m args below meth c H locs cells slots Q ls C hl hF) (fun h => kf (fun h' => h ((lg_cmp_le x u).mpr h')) z (by rw [if_neg (fun h' => h ((lg_cmp_le x u).mpr h'))] at hz; exact hz) base b cy dC dI p l e R s m args below meth c H locs cells slots Q ls C hl hF)
theorem r_lcmp_ne {x u : Int64} {off : Int} {tgt : Nat} (hd : decode cc pc = .ok (.lcmp, 1)) (hd2 : decode cc (pc + 1) = .ok (.ifCond .ne off, 3)) (ht : ((pc + 1 : Nat) : Int) + off = (tgt : Int)) (kf : x = u → Run D y cc nL rt X ρ (pc + 4) L st σ B) (kt : ¬ x = u → Run D y cc nL rt X ρ tgt L st σ A) : Run D y cc nL rt X ρ pc L (.long u :: .long x :: st) σ (if x = u then B else A) := by
  intro z hz base b cy dC dI p l e R s m args below meth c H locs cells slots Q ls C hl hF
  refine W.lcmp C.1.1 C.1.2.1 hd ?_
  exact lv_if_ne C.1.1 C.1.2.1 hd2 ht (fun h => kt (fun h' => h ((lg_cmp_eq x u).mpr h')) z (by rw [if_neg (fun h' => h ((lg_cmp_eq x u).mpr h'))] at hz; exact hz) base b cy dC dI p l e R s m args below meth c H locs cells slots Q ls C hl hF) (fun h => kf ((lg_cmp_eq x u).mp h) z (by rw [if_pos ((lg_cmp_eq x u).mp h)] at hz; exact hz) base b cy dC dI p l e R s m args below meth c H locs cells slots Q ls C hl hF)
theorem r_tableIn {dflt lo hi : Int} {offs : Array Int} {len : Nat} {x : Int32} {off : Int} {tgt : Nat} (hd : decode cc pc = .ok (.tableswitch dflt lo hi offs, len)) (v : Int32) (hx : x = v) (h1 : ¬ v.toInt < lo) (h2 : ¬ hi < v.toInt) (ho : offs[(v.toInt - lo).toNat]? = some off) (ht : (pc : Int) + off = (tgt : Int)) (k : Run D y cc nL rt X ρ tgt L st σ o) : Run D y cc nL rt X ρ pc L (.int x :: st) σ o := by
  intro z hz base b cy dC dI p l e R s m args below meth c H locs cells slots Q ls C hl hF
  subst hx
  exact lv_tableIn C.1.1 C.1.2.1 hd h1 h2 ho ht (k z hz base b cy dC dI p l e R s m args below meth c H locs cells slots Q ls C hl hF)
theorem r_tableOut {dflt lo hi : Int} {offs : Array Int} {len : Nat} {x : Int32} {tgt : Nat} (hd : decode cc pc = .ok (.tableswitch dflt lo hi offs, len)) (h : x.toInt < lo ∨ hi < x.toInt) (ht : (pc : Int) + dflt = (tgt : Int)) (k : Run D y cc nL rt X ρ tgt L st σ o) : Run D y cc nL rt X ρ pc L (.int x :: st) σ o := by
  intro z hz base b cy dC dI p l e R s m args below meth c H locs cells slots Q ls C hl hF
  exact lv_tableOut C.1.1 C.1.2.1 hd h ht (k z hz base b cy dC dI p l e R s m args below meth c H locs cells slots Q ls C hl hF)
theorem r_ireturn {v : Int32} {ty : FieldType} {z0 : α} (hd : decode cc pc = .ok (.ireturn, 1)) (hrt : rt = some ty) (hn : narrow ty (.int v) = .int v) (h : ρ z0 = (some (.int v), σ)) : Run D y cc nL rt X ρ pc L [.int v] σ (some z0) := by
  intro z hz base b cy dC dI p l e R s m args below meth c H locs cells slots Q ls C hl hF
  cases hz
  have h1 := hF pc ls H locs (by rw [h]; exact ⟨⟨ty, hrt, hn⟩, hd⟩) (by rw [h]; exact C.2.1.1) C.2.1.2.1
  rw [h] at h1
  exact h1
theorem r_lreturn {v : Int64} {z0 : α} (hd : decode cc pc = .ok (.lreturn, 1)) (hrt : rt = some .long) (h : ρ z0 = (some (.long v), σ)) : Run D y cc nL rt X ρ pc L [.long v] σ (some z0) := by
  intro z hz base b cy dC dI p l e R s m args below meth c H locs cells slots Q ls C hl hF
  cases hz
  have h1 := hF pc ls H locs (by rw [h]; exact ⟨hrt, hd⟩) (by rw [h]; exact C.2.1.1) C.2.1.2.1
  rw [h] at h1
  exact h1
theorem r_return {z0 : α} (hd : decode cc pc = .ok (.return_, 1)) (hrt : rt = none) (h : ρ z0 = (none, σ)) : Run D y cc nL rt X ρ pc L [] σ (some z0) := by
  intro z hz base b cy dC dI p l e R s m args below meth c H locs cells slots Q ls C hl hF
  cases hz
  have h1 := hF pc ls H locs (by rw [h]; exact ⟨hrt, hd⟩) (by rw [h]; exact C.2.1.1) C.2.1.2.1
  rw [h] at h1
  exact h1
/-- a field of a class of ours, and the link that a method of own has to it -/
def FL (own : String) (idx ci k : Nat) : Prop := ∃ (C : String) (Tb : u_T) (N : Nat), vwCl[ci]? = some (C, Tb, N) ∧ k < N ∧ (∀ w ∈ u_ws C Tb N, w ∈ tblG) ∧ (Tb k).1 = C ∧ Cond.fieldLink own idx C (Tb k).2.1 (Tb k).2.2.1 ∈ tblG
def FP (own : String) (idx ci k : Nat) (ty : FieldType) : Prop := ∃ (C : String) (Tb : u_T) (N : Nat) (ty0 : Nat → FieldType), vwCl[ci]? = some (C, Tb, N) ∧ k < N ∧ (∀ w ∈ u_ws C Tb N, w ∈ tblG) ∧ (Tb k).1 = C ∧ Cond.fieldLink own idx C (Tb k).2.1 (Tb k).2.2.1 ∈ tblG ∧ (∀ k, k < N → parseFieldDescriptor (Tb k).2.2.1 = some (ty0 k)) ∧ (∀ a, a < N → ∀ b, b < N → a ≠ b → (Tb a).2.1 ≠ (Tb b).2.1) ∧ (Tb k).2.2.2 = false ∧ ty0 k = ty
theorem ws_obj {base : Nat} {cy : Nat → ClassId} {σ : Mem} {a ci : Nat} {ks : List FK} (ha : a < 95) (hs : sh a = .inl (ci, ks)) : (wsOf base cy σ)[a]? = some (base + a, .inr (ci, ks.mapIdx (fv base (jn σ.1 σ.2.2.1 a) (jn σ.2.1 σ.2.2.2 a)))) := by
  rw [ws_at ha, hs]
  rfl
theorem r_getf {idx ci k a : Nat} {ks : List FK} {x : FK} {v : Value} (hd : decode cc pc = .ok (.getfield idx, 3)) (hf : FL y.cls idx ci k) (ha : a < 95) (hs : sh a = .inl (ci, ks)) (hk : ks[k]? = some x) (hv : ∀ base b : Nat, cv base b v = fv base (jn σ.1 σ.2.2.1 a) (jn σ.2.1 σ.2.2.2 a) k x) (kk : Run D y cc nL rt X ρ (pc + 3) L (v :: st) σ o) : Run D y cc nL rt X ρ pc L (.ref a :: st) σ o := by
  intro z hz base b cy dC dI p l e R s m args below meth c H locs cells slots Q ls C hl hF
  obtain ⟨C0, Tb, N, h1, h2, h3, h4, h5⟩ := hf
  have h6 := kk z hz base b cy dC dI p l e R s m args below meth c H locs cells slots Q ls C hl hF
  simp only [List.map_cons, hv base b] at h6
  simp only [List.map_cons, cv_r ha]
  exact va_get C.1.1 C.1.2.1 C.1.2.2.2.2.1 h3 C.1.2.2.2.1 C.1.2.2.2.2.2.2 C.2.1.1 a (ws_obj ha hs) h1 k h2 (C.1.2.2.2.2.1 _ h5) (fun _ h => by rw [h4] at h; exact h) (by rw [List.getElem?_mapIdx, hk]; rfl) hd h6

theorem r_getr {idx ci k a r : Nat} {ks : List FK} (hd : decode cc pc = .ok (.getfield idx, 3)) (hf : FL y.cls idx ci k) (ha : a < 95) (hs : sh a = .inl (ci, ks)) (hk : ks[k]? = some (.inl r)) (hr : r < 95) (kk : Run D y cc nL rt X ρ (pc + 3) L (.ref r :: st) σ o) : Run D y cc nL rt X ρ pc L (.ref a :: st) σ o := r_getf hd hf ha hs hk (fun _ _ => cv_r hr) kk
theorem rc_geti {idx ci k a : Nat} {ks : List FK} (hd : decode cc pc = .ok (.getfield idx, 3)) (hf : FL y.cls idx ci k) (hq : a < 78) (ha : a < 95) (hs : sh a = .inl (ci, ks)) (hk : ks[k]? = some (.inr false)) (kk : Run D y cc nL rt X ρ (pc + 3) L (.int (S a k) :: st) (S, T, S', T') o) : Run D y cc nL rt X ρ pc L (.ref a :: st) (S, T, S', T') o := r_getf hd hf ha hs hk (fun _ _ => by show Value.int (S a k) = Value.int (jn S S' a k); rw [jn_c hq]) kk
theorem rc_getl {idx ci k a : Nat} {ks : List FK} (hd : decode cc pc = .ok (.getfield idx, 3)) (hf : FL y.cls idx ci k) (hq : a < 78) (ha : a < 95) (hs : sh a = .inl (ci, ks)) (hk : ks[k]? = some (.inr true)) (kk : Run D y cc nL rt X ρ (pc + 3) L (.long (T a k) :: st) (S, T, S', T') o) : Run D y cc nL rt X ρ pc L (.ref a :: st) (S, T, S', T') o := r_getf hd hf ha hs hk (fun _ _ => by show Value.long (T a k) = Value.long (jn T T' a k); rw [jn_c hq]) kk
theorem rc_puti {idx ci k a : Nat} {ks : List FK} {ty : FieldType} {v : Int32} (hd : decode cc pc = .ok (.putfield idx, 3)) (hf : FP y.cls idx ci k ty) (hn : narrow ty (.int v) = .int v) (hfit : fits ty (.int v) = true) (hq : a < 78) (ha : a < 95) (hs : sh a = .inl (ci, ks)) (hk : ks[k]? = some (.inr false)) (kk : Run D y cc nL rt X ρ (pc + 3) L st (up2 S a k v, T, S', T') o) : Run D y cc nL rt X ρ pc L (.int v :: .ref a :: st) (S, T, S', T') o := by
  intro z hz base b cy dC dI p l e R s m args below meth c H locs cells slots Q ls C hl hF
  obtain ⟨C0, Tb, N, ty0, h1, h2, h3, h4, h5, h7, h8, h9, h10⟩ := hf
  simp only [List.map_cons, cv_r ha]
  refine va_put C.1.1 C.1.2.1 C.1.2.2.2.2.1 h3 ty0 h7 h8 C.1.2.2.2.1 C.1.2.2.2.2.2.2 C.2.1.1 ws_D C.2.1.2.1 a (ws_obj ha hs) h1 k h2 (C.1.2.2.2.2.1 _ h5) (fun _ h => by rw [h4] at h; exact h) h9 (by rw [h7 k h2, h10]) hn hfit (by have := (List.getElem?_eq_some_iff.mp hk).1; simpa using this) hd (fun H1 locs1 hP hD hS => ?_)
  have hw : (wsOf base cy (S, T, S', T')).set a (base + a, .inr (ci, (ks.mapIdx (fv base (jn S S' a) (jn T T' a))).set k (.int v))) = wsOf base cy (up2 S a k v, T, S', T') := by
    rw [mi_set hk, jn_c hq, jn_c hq]
    have h := ws_cI (base := base) (cy := cy) (S := S) (T := T) (S' := S') (T' := T') hq (va_up (S a) k v)
    rw [hs] at h
    exact h
  exact kk z hz base b cy dC dI p l e R s m args below meth c H1 locs1 cells slots Q ls ⟨C.1, ⟨by rw [← hw]; exact hP, hS, C.2.1.2.2⟩, C.2.2⟩ hl hF
theorem rc_putl {idx ci k a : Nat} {ks : List FK} {ty : FieldType} {v : Int64} (hd : decode cc pc = .ok (.putfield idx, 3)) (hf : FP y.cls idx ci k ty) (hn : narrow ty (.long v) = .long v) (hfit : fits ty (.long v) = true) (hq : a < 78) (ha : a < 95) (hs : sh a = .inl (ci, ks)) (hk : ks[k]? = some (.inr true)) (kk : Run D y cc nL rt X ρ (pc + 3) L st (S, up2 T a k v, S', T') o) : Run D y cc nL rt X ρ pc L (.long v :: .ref a :: st) (S, T, S', T') o := by
  intro z hz base b cy dC dI p l e R s m args below meth c H locs cells slots Q ls C hl hF
  obtain ⟨C0, Tb, N, ty0, h1, h2, h3, h4, h5, h7, h8, h9, h10⟩ := hf
  simp only [List.map_cons, cv_r ha]
  refine va_put C.1.1 C.1.2.1 C.1.2.2.2.2.1 h3 ty0 h7 h8 C.1.2.2.2.1 C.1.2.2.2.2.2.2 C.2.1.1 ws_D C.2.1.2.1 a (ws_obj ha hs) h1 k h2 (C.1.2.2.2.2.1 _ h5) (fun _ h => by rw [h4] at h; exact h) h9 (by rw [h7 k h2, h10]) hn hfit (by have := (List.getElem?_eq_some_iff.mp hk).1; simpa using this) hd (fun H1 locs1 hP hD hS => ?_)
  have hw : (wsOf base cy (S, T, S', T')).set a (base + a, .inr (ci, (ks.mapIdx (fv base (jn S S' a) (jn T T' a))).set k (.long v))) = wsOf base cy (S, up2 T a k v, S', T') := by
    rw [mi_setL hk, jn_c hq, jn_c hq]
    have h := ws_cL (base := base) (cy := cy) (S := S) (T := T) (S' := S') (T' := T') hq (va_up (T a) k v)
    rw [hs] at h
    exact h
  exact kk z hz base b cy dC dI p l e R s m args below meth c H1 locs1 cells slots Q ls ⟨C.1, ⟨by rw [← hw]; exact hP, hS, C.2.1.2.2⟩, C.2.2⟩ hl hF
theorem rc_iald {a n : Nat} {j : Int32} (hd : decode cc pc = .ok (.iaload, 1)) (hq : a < 78) (ha : a < 95) (hs : sh a = .inr (n, 0)) (kk : inB j n = true → Run D y cc nL rt X ρ (pc + 1) L (.int (S a (ix j)) :: st) (S, T, S', T') o) : Run D y cc nL rt X ρ pc L (.int j :: .ref a :: st) (S, T, S', T') (gd (inB j n) o) := by
  refine r_gd (fun h => ?_)
  intro z hz base b cy dC dI p l e R s m args below meth c H locs cells slots Q ls C hl hF
  simp only [List.map_cons, cv_r ha]
  have h0 := ws_at (base := base) (cy := cy) (σ := (S, T, S', T')) ha
  rw [hs] at h0
  have h6 := kk h z hz base b cy dC dI p l e R s m args below meth c H locs cells slots Q ls C hl hF
  rw [show S a = jn S S' a from (jn_c hq).symm] at h6
  exact va_iald C.1.1 C.1.2.1 C.1.2.2.2.2.2.2 C.2.1.1 a 0 h0 rfl (vp_in_iff.mpr (of_decide_eq_true h)) hd h6
theorem rc_lald {a n : Nat} {j : Int32} (hd : decode cc pc = .ok (.laload, 1)) (hq : a < 78) (ha : a < 95) (hs : sh a = .inr (n, 1)) (kk : inB j n = true → Run D y cc nL rt X ρ (pc + 1) L (.long (T a (ix j)) :: st) (S, T, S', T') o) : Run D y cc nL rt X ρ pc L (.int j :: .ref a :: st) (S, T, S', T') (gd (inB j n) o) := by
  refine r_gd (fun h => ?_)
  intro z hz base b cy dC dI p l e R s m args below meth c H locs cells slots Q ls C hl hF
  simp only [List.map_cons, cv_r ha]
  have h0 := ws_at (base := base) (cy := cy) (σ := (S, T, S', T')) ha
  rw [hs] at h0
  have h6 := kk h z hz base b cy dC dI p l e R s m args below meth c H locs cells slots Q ls C hl hF
  rw [show T a = jn T T' a from (jn_c hq).symm] at h6
  exact va_lald C.1.1 C.1.2.1 C.1.2.2.2.2.2.2 C.2.1.1 a 1 h0 rfl (vp_in_iff.mpr (of_decide_eq_true h)) hd h6
theorem rc_iast {a n : Nat} {j : Int32} {v : Int32} (hd : decode cc pc = .ok (.iastore, 1)) (hq : a < 78) (ha : a < 95) (hs : sh a = .inr (n, 0)) (kk : inB j n = true → Run D y cc nL rt X ρ (pc + 1) L st (up2 S a (ix j) v, T, S', T') o) : Run D y cc nL rt X ρ pc L (.int v :: .int j :: .ref a :: st) (S, T, S', T') (gd (inB j n) o) := by
  refine r_gd (fun h => ?_)
  intro z hz base b cy dC dI p l e R s m args below meth c H locs cells slots Q ls C hl hF
  simp only [List.map_cons, cv_r ha]
  have h0 := ws_at (base := base) (cy := cy) (σ := (S, T, S', T')) ha
  rw [hs] at h0
  refine va_iast C.1.1 C.1.2.1 C.1.2.2.2.2.2.2 C.2.1.1 ws_D C.2.1.2.1 a 0 h0 rfl (vp_in_iff.mpr (of_decide_eq_true h)) hd (fun H1 locs1 hP hD hS => ?_)
  have hw := ws_cI (base := base) (cy := cy) (S := S) (T := T) (S' := S') (T' := T') hq (va_up (S a) (ix j) v)
  rw [hs] at hw
  rw [show jn S S' a = S a from jn_c hq] at hP
  exact kk h z hz base b cy dC dI p l e R s m args below meth c H1 locs1 cells slots Q ls ⟨C.1, ⟨by unfold up2; rw [← hw]; exact hP, hS, C.2.1.2.2⟩, C.2.2⟩ hl hF
theorem rc_last {a n : Nat} {j : Int32} {v : Int64} (hd : decode cc pc = .ok (.lastore, 1)) (hq : a < 78) (ha : a < 95) (hs : sh a = .inr (n, 1)) (kk : inB j n = true → Run D y cc nL rt X ρ (pc + 1) L st (S, up2 T a (ix j) v, S', T') o) : Run D y cc nL rt X ρ pc L (.long v :: .int j :: .ref a :: st) (S, T, S', T') (gd (inB j n) o) := by
  refine r_gd (fun h => ?_)
  intro z hz base b cy dC dI p l e R s m args below meth c H locs cells slots Q ls C hl hF
  simp only [List.map_cons, cv_r ha]
  have h0 := ws_at (base := base) (cy := cy) (σ := (S, T, S', T')) ha
  rw [hs] at h0
  refine va_last C.1.1 C.1.2.1 C.1.2.2.2.2.2.2 C.2.1.1 ws_D C.2.1.2.1 a 1 h0 rfl (vp_in_iff.mpr (of_decide_eq_true h)) hd (fun H1 locs1 hP hD hS => ?_)
  have hw := ws_cL (base := base) (cy := cy) (S := S) (T := T) (S' := S') (T' := T') hq (va_up (T a) (ix j) v)
  rw [hs] at hw
  rw [show jn T T' a = T a from jn_c hq] at hP
  exact kk h z hz base b cy dC dI p l e R s m args below meth c H1 locs1 cells slots Q ls ⟨C.1, ⟨by unfold up2; rw [← hw]; exact hP, hS, C.2.1.2.2⟩, C.2.2⟩ hl hF
theorem rm_geti {idx ci k a : Nat} {ks : List FK} (hd : decode cc pc = .ok (.getfield idx, 3)) (hf : FL y.cls idx ci k) (hq : ¬ a < 78) (ha : a < 95) (hs : sh a = .inl (ci, ks)) (hk : ks[k]? = some (.inr false)) (kk : Run D y cc nL rt X ρ (pc + 3) L (.int (S' a k) :: st) (S, T, S', T') o) : Run D y cc nL rt X ρ pc L (.ref a :: st) (S, T, S', T') o := r_getf hd hf ha hs hk (fun _ _ => by show Value.int (S' a k) = Value.int (jn S S' a k); rw [jn_m hq]) kk
theorem rm_getl {idx ci k a : Nat} {ks : List FK} (hd : decode cc pc = .ok (.getfield idx, 3)) (hf : FL y.cls idx ci k) (hq : ¬ a < 78) (ha : a < 95) (hs : sh a = .inl (ci, ks)) (hk : ks[k]? = some (.inr true)) (kk : Run D y cc nL rt X ρ (pc + 3) L (.long (T' a k) :: st) (S, T, S', T') o) : Run D y cc nL rt X ρ pc L (.ref a :: st) (S, T, S', T') o := r_getf hd hf ha hs hk (fun _ _ => by show Value.long (T' a k) = Value.long (jn T T' a k); rw [jn_m hq]) kk
theorem rm_puti {idx ci k a : Nat} {ks : List FK} {ty : FieldType} {v : Int32} (hd : decode cc pc = .ok (.putfield idx, 3)) (hf : FP y.cls idx ci k ty) (hn : narrow ty (.int v) = .int v) (hfit : fits ty (.int v) = true) (hq : ¬ a < 78) (ha : a < 95) (hs : sh a = .inl (ci, ks)) (hk : ks[k]? = some (.inr false)) (kk : Run D y cc nL rt X ρ (pc + 3) L st (S, T, up2 S' a k v, T') o) : Run D y cc nL rt X ρ pc L (.int v :: .ref a :: st) (S, T, S', T') o := by
  intro z hz base b cy dC dI p l e R s m args below meth c H locs cells slots Q ls C hl hF
  obtain ⟨C0, Tb, N, ty0, h1, h2, h3, h4, h5, h7, h8, h9, h10⟩ := hf
  simp only [List.map_cons, cv_r ha]
  refine va_put C.1.1 C.1.2.1 C.1.2.2.2.2.1 h3 ty0 h7 h8 C.1.2.2.2.1 C.1.2.2.2.2.2.2 C.2.1.1 ws_D C.2.1.2.1 a (ws_obj ha hs) h1 k h2 (C.1.2.2.2.2.1 _ h5) (fun _ h => by rw [h4] at h; exact h) h9 (by rw [h7 k h2, h10]) hn hfit (by have := (List.getElem?_eq_some_iff.mp hk).1; simpa using this) hd (fun H1 locs1 hP hD hS => ?_)
  have hw : (wsOf base cy (S, T, S', T')).set a (base + a, .inr (ci, (ks.mapIdx (fv base (jn S S' a) (jn T T' a))).set k (.int v))) = wsOf base cy (S, T, up2 S' a k v, T') := by
    rw [mi_set hk, jn_m hq, jn_m hq]
    have h := ws_mI (base := base) (cy := cy) (S := S) (T := T) (S' := S') (T' := T') hq (va_up (S' a) k v)
    rw [hs] at h
    exact h
  exact kk z hz base b cy dC dI p l e R s m args below meth c H1 locs1 cells slots Q ls ⟨C.1, ⟨by rw [← hw]; exact hP, hS, C.2.1.2.2⟩, C.2.2⟩ hl hF
theorem rm_putl {idx ci k a : Nat} {ks : List FK} {ty : FieldType} {v : Int64} (hd : decode cc pc = .ok (.putfield idx, 3)) (hf : FP y.cls idx ci k ty) (hn : narrow ty (.long v) = .long v) (hfit : fits ty (.long v) = true) (hq : ¬ a < 78) (ha : a < 95) (hs : sh a = .inl (ci, ks)) (hk : ks[k]? = some (.inr true)) (kk : Run D y cc nL rt X ρ (pc + 3) L st (S, T, S', up2 T' a k v) o) : Run D y cc nL rt X ρ pc L (.long v :: .ref a :: st) (S, T, S', T') o := by
  intro z hz base b cy dC dI p l e R s m args below meth c H locs cells slots Q ls C hl hF
  obtain ⟨C0, Tb, N, ty0, h1, h2, h3, h4, h5, h7, h8, h9, h10⟩ := hf
  simp only [List.map_cons, cv_r ha]
  refine va_put C.1.1 C.1.2.1 C.1.2.2.2.2.1 h3 ty0 h7 h8 C.1.2.2.2.1 C.1.2.2.2.2.2.2 C.2.1.1 ws_D C.2.1.2.1 a (ws_obj ha hs) h1 k h2 (C.1.2.2.2.2.1 _ h5) (fun _ h => by rw [h4] at h; exact h) h9 (by rw [h7 k h2, h10]) hn hfit (by have := (List.getElem?_eq_some_iff.mp hk).1; simpa using this) hd (fun H1 locs1 hP hD hS => ?_)
  have hw : (wsOf base cy (S, T, S', T')).set a (base + a, .inr (ci, (ks.mapIdx (fv base (jn S S' a) (jn T T' a))).set k (.long v))) = wsOf base cy (S, T, S', up2 T' a k v) := by
    rw [mi_setL hk, jn_m hq, jn_m hq]
    have h := ws_mL (base := base) (cy := cy) (S := S) (T := T) (S' := S') (T' := T') hq (va_up (T' a) k v)
    rw [hs] at h
    exact h
  exact kk z hz base b cy dC dI p l e R s m args below meth c H1 locs1 cells slots Q ls ⟨C.1, ⟨by rw [← hw]; exact hP, hS, C.2.1.2.2⟩, C.2.2⟩ hl hF
theorem rm_iald {a n : Nat} {j : Int32} (hd : decode cc pc = .ok (.iaload, 1)) (hq : ¬ a < 78) (ha : a < 95) (hs : sh a = .inr (n, 0)) (kk : inB j n = true → Run D y cc nL rt X ρ (pc + 1) L (.int (S' a (ix j)) :: st) (S, T, S', T') o) : Run D y cc nL rt X ρ pc L (.int j :: .ref a :: st) (S, T, S', T') (gd (inB j n) o) := by
  refine r_gd (fun h => ?_)
  intro z hz base b cy dC dI p l e R s m args below meth c H locs cells slots Q ls C hl hF
  simp only [List.map_cons, cv_r ha]
  have h0 := ws_at (base := base) (cy := cy) (σ := (S, T, S', T')) ha
  rw [hs] at h0
  have h6 := kk h z hz base b cy dC dI p l e R s m args below meth c H locs cells slots Q ls C hl hF
  rw [show S' a = jn S S' a from (jn_m hq).symm] at h6
  exact va_iald C.1.1 C.1.2.1 C.1.2.2.2.2.2.2 C.2.1.1 a 0 h0 rfl (vp_in_iff.mpr (of_decide_eq_true h)) hd h6
theorem rm_lald {a n : Nat} {j : Int32} (hd : decode cc pc = .ok (.laload, 1)) (hq : ¬ a < 78) (ha : a < 95) (hs : sh a = .inr (n, 1)) (kk : inB j n = true → Run D y cc nL rt X ρ (pc + 1) L (.long (T' a (ix j)) :: st) (S, T, S', T') o) : Run D y cc nL rt X ρ pc L (.int j :: .ref a :: st) (S, T, S', T') (gd (inB j n) o) := by
  refine r_gd (fun h => ?_)
  intro z hz base b cy dC dI p l e R s m args below meth c H locs cells slots Q ls C hl hF
  simp only [List.map_cons, cv_r ha]
  have h0 := ws_at (base := base) (cy := cy) (σ := (S, T, S', T')) ha
  rw [hs] at h0
  have h6 := kk h z hz base b cy dC dI p l e R s m args below meth c H locs cells slots Q ls C hl hF
  rw [show T' a = jn T T' a from (jn_m hq).symm] at h6
  exact va_lald C.1.1 C.1.2.1 C.1.2.2.2.2.2.2 C.2.1.1 a 1 h0 rfl (vp_in_iff.mpr (of_decide_eq_true h)) hd h6
theorem rm_iast {a n : Nat} {j : Int32} {v : Int32} (hd : decode cc pc = .ok (.iastore, 1)) (hq : ¬ a < 78) (ha : a < 95) (hs : sh a = .inr (n, 0)) (kk : inB j n = true → Run D y cc nL rt X ρ (pc + 1) L st (S, T, up2 S' a (ix j) v, T') o) : Run D y cc nL rt X ρ pc L (.int v :: .int j :: .ref a :: st) (S, T, S', T') (gd (inB j n) o) := by
  refine r_gd (fun h => ?_)
  intro z hz base b cy dC dI p l e R s m args below meth c H locs cells slots Q ls C hl hF
  simp only [List.map_cons, cv_r ha]
  have h0 := ws_at (base := base) (cy := cy) (σ := (S, T, S', T')) ha
  rw [hs] at h0
  refine va_iast C.1.1 C.1.2.1 C.1.2.2.2.2.2.2 C.2.1.1 ws_D C.2.1.2.1 a 0 h0 rfl (vp_in_iff.mpr (of_decide_eq_true h)) hd (fun H1 locs1 hP hD hS => ?_)
  have hw := ws_mI (base := base) (cy := cy) (S := S) (T := T) (S' := S') (T' := T') hq (va_up (S' a) (ix j) v)
  rw [hs] at hw
  rw [show jn S S' a = S' a from jn_m hq] at hP
  exact kk h z hz base b cy dC dI p l e R s m args below meth c H1 locs1 cells slots Q ls ⟨C.1, ⟨by unfold up2; rw [← hw]; exact hP, hS, C.2.1.2.2⟩, C.2.2⟩ hl hF
theorem rm_last {a n : Nat} {j : Int32} {v : Int64} (hd : decode cc pc = .ok (.lastore, 1)) (hq : ¬ a < 78) (ha : a < 95) (hs : sh a = .inr (n, 1)) (kk : inB j n = true → Run D y cc nL rt X ρ (pc + 1) L st (S, T, S', up2 T' a (ix j) v) o) : Run D y cc nL rt X ρ pc L (.long v :: .int j :: .ref a :: st) (S, T, S', T') (gd (inB j n) o) := by
  refine r_gd (fun h => ?_)
  intro z hz base b cy dC dI p l e R s m args below meth c H locs cells slots Q ls C hl hF
  simp only [List.map_cons, cv_r ha]
  have h0 := ws_at (base := base) (cy := cy) (σ := (S, T, S', T')) ha
  rw [hs] at h0
  refine va_last C.1.1 C.1.2.1 C.1.2.2.2.2.2.2 C.2.1.1 ws_D C.2.1.2.1 a 1 h0 rfl (vp_in_iff.mpr (of_decide_eq_true h)) hd (fun H1 locs1 hP hD hS => ?_)
  have hw := ws_mL (base := base) (cy := cy) (S := S) (T := T) (S' := S') (T' := T') hq (va_up (T' a) (ix j) v)
  rw [hs] at hw
  rw [show jn T T' a = T' a from jn_m hq] at hP
  exact kk h z hz base b cy dC dI p l e R s m args below meth c H1 locs1 cells slots Q ls ⟨C.1, ⟨by unfold up2; rw [← hw]; exact hP, hS, C.2.1.2.2⟩, C.2.2⟩ hl hF
theorem ix_lt {j : Int32} {n : Nat} (h : inB j n = true) : ix j < n := by
  have h1 := of_decide_eq_true h
  unfold ix
  show j.toInt.toNat < n
  omega
theorem r_aald {a n kd x : Nat} {j : Int32} (hd : decode cc pc = .ok (.aaload, 1)) (ha : a < 95) (hs : sh a = .inr (n, kd + 2)) (hkd : kd < 2) (hn : n < 100) (hx : el a (ix j) = x) (kk : inB j n = true → Run D y cc nL rt X ρ (pc + 1) L (.ref x :: st) σ o) : Run D y cc nL rt X ρ pc L (.int j :: .ref a :: st) σ (gd (inB j n) o) := by
  refine r_gd (fun h => ?_)
  intro z hz base b cy dC dI p l e R s m args below meth c H locs cells slots Q ls C hl hF
  have hx2 : x ≠ 1000 := by
    have h3 := ix_lt h
    rw [← hx]
    unfold el
    split
    · omega
    · split <;> omega
  simp only [List.map_cons, cv_r ha]
  have h0 := ws_at (base := base) (cy := cy) (σ := σ) ha
  rw [hs] at h0
  have h6 := kk h z hz base b cy dC dI p l e R s m args below meth c H locs cells slots Q ls C hl hF
  have h7 : cv base b (.ref x) = va_rf (some (base + el a (ix j))) := by
    rw [hx]
    simp [cv, hx2, va_rf]
  simp only [List.map_cons, h7] at h6
  rcases (show kd = 0 ∨ kd = 1 by omega) with rfl | rfl
  · exact va_aldq C.1.1 C.1.2.1 C.1.2.2.2.2.2.2 C.2.1.1 a 2 h0 rfl (vp_in_iff.mpr (of_decide_eq_true h)) hd h6
  · exact va_aldq C.1.1 C.1.2.1 C.1.2.2.2.2.2.2 C.2.1.1 a 3 h0 rfl (vp_in_iff.mpr (of_decide_eq_true h)) hd h6
theorem r_slen {n : Nat} {xs : Nat → Int32} (hX : X = some (n, xs)) (hd : decode cc pc = .ok (.arraylength, 1)) (kk : Run D y cc nL rt X ρ (pc + 1) L (.int (Int32.ofNat n) :: st) σ o) : Run D y cc nL rt X ρ pc L (.ref 1000 :: st) σ o := by
  intro z hz base b cy dC dI p l e R s m args below meth c H locs cells slots Q ls C hl hF
  obtain ⟨h1, h2, h3⟩ := C.2.1.2.2 n xs hX
  exact va_slen C.1.1 C.1.2.1 h1 h2 (by show ¬ base ≤ b; omega) C.2.1.2.1 hd (kk z hz base b cy dC dI p l e R s m args below meth c H locs cells slots Q ls C hl hF)
theorem r_sld {n : Nat} {xs : Nat → Int32} {j : Int32} (hX : X = some (n, xs)) (hd : decode cc pc = .ok (.iaload, 1)) (kk : inB j n = true → Run D y cc nL rt X ρ (pc + 1) L (.int (xs (ix j)) :: st) σ o) : Run D y cc nL rt X ρ pc L (.int j :: .ref 1000 :: st) σ (gd (inB j n) o) := by
  refine r_gd (fun h => ?_)
  intro z hz base b cy dC dI p l e R s m args below meth c H locs cells slots Q ls C hl hF
  obtain ⟨h1, h2, h3⟩ := C.2.1.2.2 n xs hX
  exact va_sld C.1.1 C.1.2.1 h1 h2 (by show ¬ base ≤ b; omega) C.2.1.2.1 (vp_in_iff.mpr (of_decide_eq_true h)) hd (kk h z hz base b cy dC dI p l e R s m args below meth c H locs cells slots Q ls C hl hF)
theorem cp_ok {sp dp n : Int32} {n0 n1 : Nat} (h : cpB sp dp n n0 n1 = true) : ¬ sp < 0 ∧ ¬ dp < 0 ∧ ¬ n < 0 ∧ sp.toNatClampNeg + n.toNatClampNeg ≤ n0 ∧ dp.toNatClampNeg + n.toNatClampNeg ≤ n1 := by
  have h1 := of_decide_eq_true h
  have e0 : (0 : Int32).toInt = 0 := rfl
  simp only [Int32.lt_iff_toInt_lt, e0]
  show _ ∧ _ ∧ _ ∧ sp.toInt.toNat + n.toInt.toNat ≤ n0 ∧ dp.toInt.toNat + n.toInt.toNat ≤ n1
  omega
theorem rc_copy {idx a0 a1 n0 n1 : Nat} {sp dp n : Int32} (hd : decode cc pc = .ok (.invokestatic idx, 3)) (hw : Cond.methodLink y.cls idx arraycopyName ∈ tblG ∧ Cond.native arraycopyName ∈ tblG ∧ Cond.static arraycopyName ∈ tblG ∧ Cond.initialized "java/lang/System" ∈ tblG) (hD : 1 ≤ D) (hq0 : a0 < 78) (hq1 : a1 < 78) (hs0 : sh a0 = .inr (n0, 0)) (hs1 : sh a1 = .inr (n1, 0)) (hst : (st.map fun v => v.category).sum ≤ 8) (kk : cpB sp dp n n0 n1 = true → Run D y cc nL rt X ρ (pc + 3) L st (va_up S a1 (va_cpy (S a0) (S a1) (ix sp) (ix dp) (ix n)), T, S', T') o) : Run D y cc nL rt X ρ pc L (.int n :: .int dp :: .ref a1 :: .int sp :: .ref a0 :: st) (S, T, S', T') (gd (cpB sp dp n n0 n1) o) := by
  refine r_gd (fun h => ?_)
  intro z hz base b cy dC dI p l e R s m args below meth c H locs cells slots Q ls C hl hF
  obtain ⟨c1, c2, c3, c4, c5⟩ := cp_ok h
  simp only [List.map_cons, cv_r (show a0 < 95 by omega), cv_r (show a1 < 95 by omega)]
  have h0 := ws_at (base := base) (cy := cy) (σ := (S, T, S', T')) (i := a0) (by omega)
  have h1 := ws_at (base := base) (cy := cy) (σ := (S, T, S', T')) (i := a1) (by omega)
  rw [hs0] at h0
  rw [hs1] at h1
  have hsz : ls.size = nL := hl.1
  refine va_copyi (ty := .int) C.1.1 C.1.2.1 (C.1.2.2.1.trans hsz.symm) C.1.2.2.2.1 (C.1.2.2.2.2.1 _ hw.1) (C.1.2.2.2.2.1 _ hw.2.1) (C.1.2.2.2.2.1 _ hw.2.2.1) (C.1.2.2.2.2.1 _ hw.2.2.2) C.1.2.2.2.2.2.2 C.2.1.1 ws_D C.2.1.2.1 a0 a1 0 0 h0 h1 rfl rfl rfl c1 c2 c3 c4 c5 (fun i _ => rfl) (Nat.le_trans hD C.2.2.1) ?_ hd (fun H1 locs1 hP hDd hS => ?_)
  · have hc : (((st.map (cv base b)).map fun v => v.category).sum) = (st.map fun v => v.category).sum := by
      rw [List.map_map]
      congr 1
      apply List.map_congr_left
      intro v _
      exact cv_cat _ _ v
    rw [hc]
    have hN : nativeFrameWords "java/lang/System" "arraycopy" 5 ≤ 45 := by decide +kernel
    have := C.2.2.2.1
    omega
  · have hw2 := ws_cI (base := base) (cy := cy) (S := S) (T := T) (S' := S') (T' := T') hq1 (va_cpy (S a0) (S a1) (ix sp) (ix dp) (ix n))
    rw [hs1] at hw2
    rw [show jn (S, T, S', T').1 (S, T, S', T').2.2.1 a0 = S a0 from jn_c hq0, show jn (S, T, S', T').1 (S, T, S', T').2.2.1 a1 = S a1 from jn_c hq1] at hP
    exact kk h z hz base b cy dC dI p l e R s m args below meth c H1 locs1 cells slots Q ls ⟨C.1, ⟨by rw [← hw2]; exact hP, hS, C.2.1.2.2⟩, C.2.2⟩ hl hF
/-- a method's contract over the memory -/
def mPc (base b : Nat) (cy : Nat → ClassId) (dC : Nat → ClassId) (dI : Nat → Nat → Nat) (as : List Value) (σ : Mem) : Array Value → State → Prop := fun v U => v = (as.map (cv base b)).toArray ∧ va_P (dC, dI) vwCl (wsOf base cy σ) U.heap ∧ va_K (dC, dI) vwCl (tysOf cy) U ∧ ∀ w ∈ tblN, va_Nw w U
def mQc (base b : Nat) (cy : Nat → ClassId) (dC : Nat → ClassId) (dI : Nat → Nat → Nat) (q : Option Value × Mem) : Array Value → State → Outcome → State → Prop := fun _ st oc t => oc = .returned (q.1.map (cv base b)) ∧ va_P (dC, dI) vwCl (wsOf base cy q.2) t.heap ∧ va_F (fun q => base ≤ q) st t
def Meth {β : Type} (D : Nat) (y : MethodName) (cc : ByteArray) (nL : Nat) (rt : Option FieldType) (as : List Value) (σ : Mem) (o : Option β) (ρ : β → Option Value × Mem) : Prop :=
  ∀ z, o = some z → ∀ (base b : Nat) (cy : Nat → ClassId) (dC : Nat → ClassId) (dI : Nat → Nat → Nat) (l : Launch), Met l y (Cond.code y cc nL rt :: tblG) { frames := D, cells := 0, slots := 0, locals := 64 * D } (mPc base b cy dC dI as σ) (mQc base b cy dC dI (ρ z)) 0 0 (fun q => base ≤ q)
theorem lv_args_cv (base b : Nat) : ∀ (as : List Value) (i : Nat), lv_args i (as.map (cv base b)) = lmap base b (lv_args i as)
  | [], _ => rfl
  | v :: as, i => by
    simp only [List.map_cons, lv_args, lmap, cv_cat]
    rw [lv_args_cv base b as]
    rfl
theorem lg_sl_cv (base b : Nat) : ∀ as : List Value, (lg_sl (as.map (cv base b))).length = (lg_sl as).length
  | [] => rfl
  | v :: as => by
    have ih := lg_sl_cv base b as
    unfold lg_sl at ih ⊢
    simp only [List.map_cons, List.flatMap_cons, List.length_append, ih, cv_cat]
    split <;> rfl
theorem meth_of {as : List Value} (hy : plainName y.cls = true) (hlen : (lg_sl as).length ≤ nL) (hL : lv_args 0 as = L) (h : Run D y cc nL rt none ρ 0 L [] σ o) : Meth D y cc nL rt as σ o ρ := by
  intro z hz base b cy dC dI l
  subst hL
  refine Met.ofW (cc := cc) (maxL := nL) (ret := rt) hy rfl ?_
  intro p e s m args below meth c s₁ B0 hml hv
  obtain ⟨rfl, hP, hK, hN⟩ := hv
  have hts := atoms_spec (ws := Cond.code y cc nL rt :: tblG) B0.pre
  have hown : s.vm.findClass y.cls = some m.cls := findClass_of_methodNamed B0.named
  have hl := lv_entry (as.map (cv base b)) (n := nL) (by rw [lg_sl_cv]; exact hlen)
  rw [lg_entry_eq]
  rw [lv_args_cv] at hl
  refine h z hz base b cy dC dI p l e _ s m _ below meth c s.heap [] 0 0 _ _ ⟨⟨B0.exec, B0.bytes, hml, hown, fun w hw => hts w (List.mem_cons_of_mem _ hw), hN, hK⟩, ⟨hP, va_S.rf, fun _ _ hX => nomatch hX⟩, Nat.le_refl _, Nat.le_refl _, Nat.le_refl _, Nat.le_refl _⟩ hl ?_
  intro pc' ls' H1 locs1 hret hP1 hS1
  have hlocks := B0.notSynchronized
  cases hr : (ρ z).1 with
  | none =>
    rw [hr] at hret
    exact W.vret B0.exec B0.bytes (B0.returns.trans hret.1) (fun t ht _ => ⟨by rw [hr]; rfl, by rw [ht]; exact hP1, hS1.F ht⟩) hS1.2.2 hret.2
  | some v =>
    rw [hr] at hret
    cases v with
    | int v =>
      obtain ⟨⟨ty, h1, h2⟩, h3⟩ := hret
      exact W.zret B0.exec B0.bytes (B0.returns.trans h1) h2 (fun t ht _ => ⟨by rw [hr]; rfl, by rw [ht]; exact hP1, hS1.F ht⟩) hS1.2.2 h3
    | long v => exact W.lret B0.exec B0.bytes (B0.returns.trans hret.1) (fun t ht _ => ⟨by rw [hr]; rfl, by rw [ht]; exact hP1, hS1.F ht⟩) hS1.2.2 hret.2
    | _ => exact hret.elim
theorem mPc_blind {base b : Nat} {cy : Nat → ClassId} {dC : Nat → ClassId} {dI : Nat → Nat → Nat} {as : List Value} {σ : Mem} : FrameBlind (mPc base b cy dC dI as σ) := fun a U g mk q => ⟨q.1, q.2.1, va_K.moved (u := U) (U := U.calling g mk a) (Vm.Alike.refl U.vm) q.2.2.1, tN_same (s := U) (U := U.calling g mk a) rfl q.2.2.2⟩
theorem call_go {p : Program} {l : Launch} {e : Env} {R : Room} {s : State} {m : MethodId} {args : Array Value} {below : List Frame} {meth : Method} {c : Code} {H : Heap} {locs : List Loc} {cells slots : Nat} {Q : State → Prop} {ls : Array Slot} {st0 rest : List Value} {a : Array Value} {base b : Nat} {cy : Nat → ClassId} {dC : Nat → ClassId} {dI : Nat → Nat → Nat} {q : Option Value × Mem}
    (hr : va_Run p l e R s m args below meth c H locs cells slots 0 0 (F0 m pc ls st0) rest (mQc base b cy dC dI q a) (fun q => base ≤ q)) (hS : va_S (fun q => base ≤ q) s.heap H locs)
    (kk : ∀ (H1 : Heap) (locs1 : List Loc), va_P (dC, dI) vwCl (wsOf base cy q.2) H1 → va_S (fun q => base ≤ q) s.heap H1 locs1 → W p l e R s m args below meth c H1 locs1 cells slots Q (F0 m (pc + 3) ls ((q.1.map (cv base b)).toList ++ rest))) : W p l e R s m args below meth c H locs cells slots Q (F0 m pc ls st0) := by
  intro U hU Y
  obtain ⟨v, st₀, t, U', L2, h0, Y', hL, e1, e2, ⟨hv, hb, hz, hk⟩, sx⟩ := hr U hU Y
  cases hv
  rw [h0] at hz hk
  obtain ⟨t2, a1, b1⟩ := kk U'.heap (locs ++ L2) (by rw [e1]; exact hb)
    ⟨Nat.le_trans hS.1 (by rw [e1]; exact hz), fun q h1 h2 => by rw [e1, hk q (Nat.lt_of_lt_of_le h1 hS.1) h2]; exact hS.2.1 q h1 h2, fun q hq => by
      rcases List.mem_append.mp hq with h | h
      · exact hS.2.2 q h
      · exact hL q h⟩ U' rfl Y'
  exact ⟨t2, sx t2 a1, b1⟩
theorem sum_cv (base b : Nat) (st : List Value) : ((st.map (cv base b)).map fun v => v.category).sum = (st.map fun v => v.category).sum := by
  rw [List.map_map]
  congr 1
  apply List.map_congr_left
  intro v _
  exact cv_cat _ _ v
/-- the words of a call -/
def CD (y' : MethodName) (n : Nat) : Prop := y'.cls ≠ "java/lang/invoke/MethodHandle" ∧ y'.cls ≠ "java/lang/invoke/VarHandle" ∧ (parseMethodDescriptor y'.desc).map (fun d => d.parameters.length) = some n
def CS (own : String) (idx : Nat) (y' : MethodName) (cc' : ByteArray) (nL' : Nat) (rt' : Option FieldType) (n : Nat) : Prop := Cond.methodLink own idx y' ∈ tblG ∧ Cond.static y' ∈ tblG ∧ Cond.code y' cc' nL' rt' ∈ tblG ∧ Cond.initialized y'.cls ∈ tblG ∧ CD y' n ∧ nL' ≤ 45
def CN (own : String) (idx : Nat) (y' : MethodName) (cc' : ByteArray) (nL' : Nat) (rt' : Option FieldType) (n : Nat) : Prop := Cond.methodLinkNest own idx y' "OneOfEach" ∈ tblN ∧ Cond.static y' ∈ tblG ∧ Cond.code y' cc' nL' rt' ∈ tblG ∧ Cond.initialized y'.cls ∈ tblG ∧ CD y' n ∧ nL' ≤ 45
def CV (own : String) (idx : Nat) (y' : MethodName) (cc' : ByteArray) (nL' : Nat) (rt' : Option FieldType) (n : Nat) : Prop := Cond.methodLink own idx y' ∈ tblG ∧ Cond.instanceMethod y' ∈ tblG ∧ Cond.selects y'.cls y' y' ∈ tblG ∧ Cond.code y' cc' nL' rt' ∈ tblG ∧ Cond.initialized y'.cls ∈ tblG ∧ CD y' n ∧ nL' ≤ 45
theorem r_callS {β : Type} {D' : Nat} {y' : MethodName} {cc' : ByteArray} {nL' : Nat} {rt' : Option FieldType} {as : List Value} {stk : List Value} {o' : Option β} {ρ' : β → Option Value × Mem} {K : β → Option α} {idx : Nat} (hd : decode cc pc = .ok (.invokestatic idx, 3)) (hw : CS y.cls idx y' cc' nL' rt' as.length) (hM : Meth D' y' cc' nL' rt' as σ o' ρ') (hD : D' + 1 ≤ D) (hs : as.reverse ++ st = stk) (hst : (st.map fun v => v.category).sum ≤ 8) (k : ∀ a, o' = some a → Run D y cc nL rt X ρ (pc + 3) L ((ρ' a).1.toList ++ st) (ρ' a).2 (K a)) : Run D y cc nL rt X ρ pc L stk σ (o'.bind K) := by
  intro z hz base b cy dC dI p l e R s m args below meth c H locs cells slots Q ls C hl hF
  subst hs
  obtain ⟨a, ha, hz⟩ := Option.bind_eq_some_iff.mp hz
  refine call_go (base := base) (b := b) (cy := cy) (dC := dC) (dI := dI) (q := ρ' a) (rest := st.map (cv base b)) (a := (as.map (cv base b)).toArray) ?_ C.2.1.2.1 (fun H1 locs1 hP hS => ?_)
  · exact va_runS (As := as.map (cv base b)) ⟨C.1.1, C.1.2.1, C.1.2.2.1, C.1.2.2.2.1, C.1.2.2.2.2.1⟩ (hM a ha base b cy dC dI l) ⟨callB_of as.length C.1.2.2.2.2.1 (tG_in hw.2.2.1) rfl rfl rfl (C.1.2.2.2.2.1 _ hw.2.2.2.1) (C.1.2.2.2.2.1 _ hw.1) hw.2.2.2.2.1 ⟨by have := C.2.2.1; show D' + 1 ≤ R.frames; omega, by have := C.2.2.2.1; have := hw.2.2.2.2.2; show 8 + (nL' + 11) + 64 * D' ≤ R.locals; omega⟩, C.1.2.2.2.2.1 _ hw.2.1⟩ ⟨mPc_blind, fun U hU hW => ⟨rfl, by rw [hU]; exact C.2.1.1, va_K.moved hW.alike C.1.2.2.2.2.2.2, tN_warm hW C.1.2.2.2.2.2.1⟩⟩ rfl (by simp) hl.1 (by rw [List.map_append, List.map_reverse]) (lv_room (by rw [sum_cv]; exact hst)) hd ⟨by have := C.2.2.2.2.1; show cells + 0 ≤ R.cells; omega, by have := C.2.2.2.2.2; show slots + 0 ≤ R.slots; omega⟩
  · have h1 := k a ha z hz base b cy dC dI p l e R s m args below meth c H1 locs1 cells slots Q ls ⟨C.1, ⟨hP, hS, C.2.1.2.2⟩, C.2.2⟩ hl hF
    rw [List.map_append] at h1
    rw [show ((ρ' a).1.map (cv base b)).toList = (ρ' a).1.toList.map (cv base b) by cases (ρ' a).1 <;> rfl]
    exact h1
theorem r_callN {β : Type} {D' : Nat} {y' : MethodName} {cc' : ByteArray} {nL' : Nat} {rt' : Option FieldType} {as : List Value} {stk : List Value} {o' : Option β} {ρ' : β → Option Value × Mem} {K : β → Option α} {idx : Nat} (hd : decode cc pc = .ok (.invokestatic idx, 3)) (hw : CN y.cls idx y' cc' nL' rt' as.length) (hM : Meth D' y' cc' nL' rt' as σ o' ρ') (hD : D' + 1 ≤ D) (hs : as.reverse ++ st = stk) (hst : (st.map fun v => v.category).sum ≤ 8) (k : ∀ a, o' = some a → Run D y cc nL rt X ρ (pc + 3) L ((ρ' a).1.toList ++ st) (ρ' a).2 (K a)) : Run D y cc nL rt X ρ pc L stk σ (o'.bind K) := by
  intro z hz base b cy dC dI p l e R s m args below meth c H locs cells slots Q ls C hl hF
  subst hs
  obtain ⟨a, ha, hz⟩ := Option.bind_eq_some_iff.mp hz
  refine call_go (base := base) (b := b) (cy := cy) (dC := dC) (dI := dI) (q := ρ' a) (rest := st.map (cv base b)) (a := (as.map (cv base b)).toArray) ?_ C.2.1.2.1 (fun H1 locs1 hP hS => ?_)
  · exact va_runSN (As := as.map (cv base b)) (host := "OneOfEach") ⟨C.1.1, C.1.2.1, C.1.2.2.1, C.1.2.2.2.1, C.1.2.2.2.2.1⟩ (hM a ha base b cy dC dI l) ⟨va_cnB as.length C.1.2.2.2.2.1 (tG_in hw.2.2.1) rfl rfl rfl (C.1.2.2.2.2.2.1 _ hw.1) (C.1.2.2.2.2.1 _ hw.2.2.2.1) hw.2.2.2.2.1 ⟨by have := C.2.2.1; show D' + 1 ≤ R.frames; omega, by have := C.2.2.2.1; have := hw.2.2.2.2.2; show 8 + (nL' + 11) + 64 * D' ≤ R.locals; omega⟩, C.1.2.2.2.2.1 _ hw.2.1, trivial⟩ ⟨mPc_blind, fun U hU hW => ⟨rfl, by rw [hU]; exact C.2.1.1, va_K.moved hW.alike C.1.2.2.2.2.2.2, tN_warm hW C.1.2.2.2.2.2.1⟩⟩ rfl (by simp) hl.1 (by rw [List.map_append, List.map_reverse]) (lv_room (by rw [sum_cv]; exact hst)) hd ⟨by have := C.2.2.2.2.1; show cells + 0 ≤ R.cells; omega, by have := C.2.2.2.2.2; show slots + 0 ≤ R.slots; omega⟩
  · have h1 := k a ha z hz base b cy dC dI p l e R s m args below meth c H1 locs1 cells slots Q ls ⟨C.1, ⟨hP, hS, C.2.1.2.2⟩, C.2.2⟩ hl hF
    rw [List.map_append] at h1
    rw [show ((ρ' a).1.map (cv base b)).toList = (ρ' a).1.toList.map (cv base b) by cases (ρ' a).1 <;> rfl]
    exact h1
theorem r_callV {β : Type} {D' : Nat} {y' : MethodName} {cc' : ByteArray} {nL' : Nat} {rt' : Option FieldType} {ro ci : Nat} {ks : List FK} {Tb : u_T} {N : Nat} {as : List Value} {stk : List Value} {o' : Option β} {ρ' : β → Option Value × Mem} {K : β → Option α} {idx : Nat} (hd : decode cc pc = .ok (.invokevirtual idx, 3)) (hw : CV y.cls idx y' cc' nL' rt' as.length) (ha0 : ro < 95) (hs0 : sh ro = .inl (ci, ks)) (hc : vwCl[ci]? = some (y'.cls, Tb, N)) (hM : Meth D' y' cc' nL' rt' (.ref ro :: as) σ o' ρ') (hD : D' + 1 ≤ D) (hs : as.reverse ++ .ref ro :: st = stk) (hst : (st.map fun v => v.category).sum ≤ 8) (k : ∀ a, o' = some a → Run D y cc nL rt X ρ (pc + 3) L ((ρ' a).1.toList ++ st) (ρ' a).2 (K a)) : Run D y cc nL rt X ρ pc L stk σ (o'.bind K) := by
  intro z hz base b cy dC dI p l e R s m args below meth c H locs cells slots Q ls C hl hF
  subst hs
  obtain ⟨a, ha, hz⟩ := Option.bind_eq_some_iff.mp hz
  have er : (Value.ref ro :: as).map (cv base b) = Value.ref (base + ro) :: as.map (cv base b) := by rw [List.map_cons, cv_r ha0]
  refine call_go (base := base) (b := b) (cy := cy) (dC := dC) (dI := dI) (q := ρ' a) (rest := st.map (cv base b)) (a := ((Value.ref ro :: as).map (cv base b)).toArray) ?_ C.2.1.2.1 (fun H1 locs1 hP hS => ?_)
  · exact by
      rw [er]
      exact va_runV (C := y'.cls) (b := base + ro) (As := as.map (cv base b)) ⟨C.1.1, C.1.2.1, C.1.2.2.1, C.1.2.2.2.1, C.1.2.2.2.2.1⟩ (hM a ha base b cy dC dI l) ⟨callB_of as.length C.1.2.2.2.2.1 (tG_in hw.2.2.2.1) rfl rfl rfl (C.1.2.2.2.2.1 _ hw.2.2.2.2.1) (C.1.2.2.2.2.1 _ hw.1) hw.2.2.2.2.2.1 ⟨by have := C.2.2.1; show D' + 1 ≤ R.frames; omega, by have := C.2.2.2.1; have := hw.2.2.2.2.2.2; show 8 + (nL' + 11) + 64 * D' ≤ R.locals; omega⟩, C.1.2.2.2.2.1 _ hw.2.1, C.1.2.2.2.2.1 _ hw.2.2.1⟩ ⟨mPc_blind, va_recv C.1.2.2.2.2.2.2 C.2.1.1 hc (ws_obj ha0 hs0), fun U hU hW => ⟨by rw [er], by rw [hU]; exact C.2.1.1, va_K.moved hW.alike C.1.2.2.2.2.2.2, tN_warm hW C.1.2.2.2.2.2.1⟩⟩ rfl (by simp) hl.1 (by rw [List.map_append, List.map_reverse, List.map_cons, cv_r ha0]) (lv_room (by rw [sum_cv]; exact hst)) hd ⟨by have := C.2.2.2.2.1; show cells + 0 ≤ R.cells; omega, by have := C.2.2.2.2.2; show slots + 0 ≤ R.slots; omega⟩
  · have h1 := k a ha z hz base b cy dC dI p l e R s m args below meth c H1 locs1 cells slots Q ls ⟨C.1, ⟨hP, hS, C.2.1.2.2⟩, C.2.2⟩ hl hF
    rw [List.map_append] at h1
    rw [show ((ρ' a).1.map (cv base b)).toList = (ρ' a).1.toList.map (cv base b) by cases (ρ' a).1 <;> rfl]
    exact h1
end Rows
end
